/-! partitions: both sides together -/
theorem mfr.I {m : St} {a i : Nat} {v : Int} (h : a = 80 ∨ a = 81 ∨ a = 86 ∨ a = 87) : mfr m (pI m a i v) := by
  rw [pI_A]; exact mfr.A h
theorem STK.hi {t m M u v : St} {n f k : Nat} {all : Int64} {p : Nat} {fs : Nat → Int64} (h : STK t m M n f k all p fs) (h2 : ∀ j, j < p → u.1 382 j = t.1 382 j ∧ u.1 383 j = t.1 383 j ∧ u.2 384 j = t.2 384 j) (h3 : ∀ j, j < p → v.1 86 j = m.1 86 j ∧ v.1 87 j = m.1 87 j) : STK u v M n f k all p fs := by
  refine ⟨h.1, fun j hj => ?_⟩
  obtain ⟨i, c, a1, a2, a3, a4, a5, a6, a7, a8, a9⟩ := h.2 j hj
  have := h2 j hj
  have g := h3 j hj
  exact ⟨i, c, a1, a2, by rw [this.1, a3], by rw [this.2.1, a4], by rw [g.1, a5], by rw [g.2, a6], a7, by rw [this.2.2, a8], a9⟩
theorem sub_lt {s w : Int64} {e : Nat} (he : e < 64) (h1 : bq s e = true) (h2 : bq w e = true) : cnb (s &&& (w ^^^ (-1))) 64 < cnb s 64 := by
  refine (cnb_lt 64 (fun d _ h => ?_)).2 ⟨e, he, h1, ?_⟩
  · rw [bq_and, Bool.and_eq_true] at h; exact h.1
  · rw [bq_and, bq_not he, h2]; simp
theorem sub_back {s w : Int64} (h : ∀ e, e < 64 → bq w e = true → bq s e = true) : (s &&& (w ^^^ (-1))) ||| w = s := by
  apply bq_ext
  intro e he
  rw [bq_or, bq_and, bq_not he]
  have := h e he
  cases h1 : bq w e with
  | true => rw [this h1]; rfl
  | false => simp
set_option maxHeartbeats 1000000 in
theorem p_joint {N o : Nat} {t0 m0 M : St} {n f k : Nat} {all : Int64} (ho : o < 2) (hH : hmF o t0 M n) (hor : hoO o t0 M n) (hO : fmO M f k) (hf : fhO t0 M f k) (hM : mfr M m0) (hN : 2000 ≤ N) :
    ∀ (μ : Nat) (p i c tr tn : Nat) (fs : Nat → Int64) (t m : St) (q q2 q3 : Nat),
      2 * (401 - tr) + p ≤ μ → tr ≤ 400 → tn + μ ≤ 1100 → μ < q → μ < q2 → 4 * k < q3 + c →
      hfp t0 t → mfr m0 m → (∀ j, j < n → m.1 80 j = (odM M n j : Int)) →
      STK t m M n f k all p fs → fs p ≠ 0 → (∀ e, e < 64 → bq (fs p) e = true → e < n) → t.1 311 9 = p → m.1 200 88 = p → m.1 200 85 = tr → t.1 383 p = (c : Int) - 1 → c ≤ 4 * k → t.1 382 p = i → i < n → bq (fs p) (odM M n i) = true → (∀ j, j < i → bq (fs p) (odM M n j) = false) → p + cnb (fs p) 64 ≤ 64 →
      PRES t0 m0 M n f k all (f_X2_part_L62 N o (fun (k49 : Int64) (t50 : St) => (if k49 = (0 : Int64) then (some (0, t50)) else (some (4, t50)))) f k q (fs p) tr tn t)
        (f_X12_parted_L58 N (pKK N (fun (t67 : St) => some (1, t67)) all f k q2 (fs p) (odM M n i)) f k (fs p) (odM M n i) q3 c 0 m) := by
  have h64 := hH.1.2.1
  have hf40 := hO.1
  have hk1 := hO.2.2.1
  have hk8 := hO.2.2.2.1
  intro μ
  induction μ with
  | zero => intro p i c tr tn fs t m q q2 q3 h1 h2; omega
  | succ μ ih =>
    intro p i c tr tn fs t m q q2 q3 h1 h2 h3 h4 h5 h6 hft hfm h80 hS hnz hse h9 h88 h85 h383 hc h382 hi hb hfirst hcn
    obtain ⟨q, rfl⟩ : ∃ k, q = k + 1 := ⟨q - 1, by omega⟩
    have hpos := cnb_pos hnz
    have hp63 : p ≤ 63 := by omega
    have hMm : mfr M m := hM.tr hfm
    have hd := odM_lt (m := M) (n := n) (i := i) hi
    -- the hall's first writes
    have ep : (p : Int).toNat = p := Int.toNat_natCast p
    by_cases hc4 : c < 4 * k
    · -- one is tried
      obtain ⟨q3, rfl⟩ : ∃ k, q3 = k + 1 := ⟨q3 - 1, by omega⟩
      have hm2 : mfr m (pI m 200 85 ((tr : Int) + 1)) := mfr.F (by omega)
      have hMm2 := hMm.tr hm2
      by_cases htr : tr = 400
      · -- too hard
        refine ⟨4, -1, pI t 383 p c, pI m 200 85 ((tr : Int) + 1), ?_, ?_, hft.tr (hfp.I (by omega)), hfm.tr hm2, Or.inr (Or.inl ⟨rfl, rfl⟩)⟩
        · unfold f_X2_part_L62
          simp only [lt1_k, jn1_k, h9, ep, h383]
          rw [cmpI_ok (by omega), if_neg (by omega), if_neg hnz, ixI_ok (by omega), ixI_ok (by omega), show ((c : Int) - 1 + 1) = (c : Int) by omega]
          have e9 : (pI t 383 p (c : Int)).1 311 9 = p := by rw [pI_ne (by decide), h9]
          simp only [e9, ep, pI_at]
          rw [ixI_ok (by omega), cmpI_ok (by omega), if_pos (by omega), cmpI_ok (by omega), if_pos (by omega)]
        · unfold f_X12_parted_L58
          simp only [lt1_k, h85, pI_at]
          rw [cmpI_ok (by omega), if_pos (by omega), cmpI_ok (by omega), if_pos trivial, cmpI_ok (by omega), if_pos (by omega)]
      · obtain ⟨m3, b1, b2, b3, b4, b5, b6, b7, b8⟩ := s_fits (N := N) (s := fs p) (hH.1.fr hMm2) (hO.fr hMm2) hd.1 hc4 (by omega)
        rw [fitb_fr hMm2] at b1 b8
        have hMm3 := hMm2.tr b2
        have e9 : (pI t 383 p (c : Int)).1 311 9 = p := by rw [pI_ne (by decide), h9]
        have e82 : (pI t 383 p (c : Int)).1 382 p = i := by rw [pI_ne (by decide), h382]
        have hft1 : hfp t0 (pI t 383 p (c : Int)) := hft.tr (hfp.I (by omega))
        have eod : (pI t 383 p (c : Int)).1 (395 + 10 * o) i = (odM M n i : Int) := by rw [hft1.1 (395 + 10 * o) (by omega) (by omega) (by omega)]; exact hor i hi
        have hmem := h_members (N := N) (s := fs p) (hH.fr hft1.hfr ho) hO (hf.fr hft1.hfr) hd.1 hc4 (by omega)
        have hmod : f_X12_parted_L58 N (pKK N (fun (t67 : St) => some (1, t67)) all f k q2 (fs p) (odM M n i)) f k (fs p) (odM M n i) (q3 + 1) c 0 m = f_X12_parted_L58 N (pKK N (fun (t67 : St) => some (1, t67)) all f k q2 (fs p) (odM M n i)) f k (fs p) (odM M n i) q3 ((c + 1 : Nat) : Int) (if fitb M f (odM M n i) c (fs p) k = true then 1 else 0) m3 := by
          conv => lhs; unfold f_X12_parted_L58
          simp only [lt1_k, h85, pI_at]
          rw [cmpI_ok (by omega), if_pos (by omega), cmpI_ok (by omega), if_pos trivial, cmpI_ok (by omega), if_neg (by omega), b1, bdI_s, show ((c : Int) + 1) = ((c + 1 : Nat) : Int) by omega]
        rw [hmod]
        by_cases hfb : fitb M f (odM M n i) c (fs p) k = true
        · -- it fits
          rw [if_pos hfb]
          rw [if_pos hfb] at hmem
          generalize hmk : mk9 (wsm M f (odM M n i) c) k = w at hmem
          have hwn : w ≠ 0 := by rw [← hmk]; exact fit_nz hH.1 hO hfb
          have hws : ∀ e, e < 64 → bq w e = true → bq (fs p) e = true ∧ e < n := fun e he h => by rw [← hmk] at h; exact fit_sub hH.1 hfb he h
          have hsub : ∀ e, e < 64 → bq (fs p &&& (w ^^^ (-1))) e = true → bq (fs p) e = true := fun e he h => by
            rw [bq_and, Bool.and_eq_true] at h; exact h.1
          have hlt : cnb (fs p &&& (w ^^^ (-1))) 64 < cnb (fs p) 64 := by
            obtain ⟨e, q1, q2⟩ := bq_nz hwn
            exact sub_lt q1 (hws e q1 q2).1 q2
          -- the hall's state
          generalize hs2 : fs p &&& (w ^^^ (-1)) = s2 at *
          have hft2 : hfp t0 (pL (pI t 383 p (c : Int)) 384 p w) := hft1.tr hfp.L
          have hfo := h_firstOf (N := N) (o := o) (t := pL (pI t 383 p (c : Int)) 384 p w) (M := M) (n := n) (s := s2) (j := i) h64 (by rw [hft2.1 (305 + o) (by omega) (by omega) (by omega)]; exact hH.2.1) (hor.fr hft2.hfr ho) (by omega) (fun j hj => by
            cases h99 : bq s2 (odM M n j) with
            | false => rfl
            | true =>
              have := hsub (odM M n j) (by have := (odM_lt (m := M) (n := n) (i := j) (by omega)).1; omega) h99
              rw [hfirst j hj] at this; cases this) (by omega)
          generalize hi2 : (if fo9 M n s2 = -1 then (n : Int) else fo9 M n s2) = i2 at hfo
          have hhall : f_X2_part_L62 N o (fun (k49 : Int64) (t50 : St) => (if k49 = (0 : Int64) then (some (0, t50)) else (some (4, t50)))) f k (q + 1) (fs p) tr tn t = f_X2_part_L62 N o (fun (k49 : Int64) (t50 : St) => (if k49 = (0 : Int64) then (some (0, t50)) else (some (4, t50)))) f k q s2 ((tr + 1 : Nat) : Int) ((tn + 1 : Nat) : Int) (pI (pI (pI (pL (pI t 383 p (c : Int)) 384 p w) 382 (p + 1) i2) 383 (p + 1) (-1)) 311 9 ((p + 1 : Nat) : Int)) := by
            conv => lhs; unfold f_X2_part_L62
            simp only [lt1_k, jn1_k, h9, ep, h383]
            rw [cmpI_ok (by omega), if_neg (by omega), if_neg hnz, ixI_ok (by omega), ixI_ok (by omega), show ((c : Int) - 1 + 1) = (c : Int) by omega]
            simp only [e9, ep, pI_at, e82, Int.toNat_natCast, eod]
            rw [ixI_ok (by omega), cmpI_ok (by omega), if_pos (by omega), cmpI_ok (by omega), if_neg (by omega), ixI_ok (by omega), ixI_ok (by omega), ixI_ok (by omega), hmem, bdL_s, if_neg hwn]
            have g9 : (pL (pI t 383 p (c : Int)) 384 p w).1 311 9 = p := e9
            have g82 : (pL (pI t 383 p (c : Int)) 384 p w).1 382 p = i := e82
            simp only [e9, ep, g9, g82, hs2]
            rw [ixI_ok (by omega), ixI_ok (by omega), hfo, bdI_s]
            have k9 : ∀ x : Int, (pI (pL (pI t 383 p (c : Int)) 384 p w) 382 (p + 1) x).1 311 9 = p := fun x => by rw [pI_ne (by decide)]; exact g9
            have k9b : ∀ x y : Int, (pI (pI (pL (pI t 383 p (c : Int)) 384 p w) 382 (p + 1) x) 383 (p + 1) y).1 311 9 = p := fun x y => by rw [pI_ne (by decide)]; exact k9 x
            have ep1 : ((p : Int) + 1).toNat = p + 1 := by omega
            simp only [ep1, k9, k9b]
            rw [ixI_ok (by omega), ixI_ok (by omega)]
            rfl
          -- the model's state
          have h3kk : ∃ m5 : St, f_X12_parted_L58 N (pKK N (fun (t67 : St) => some (1, t67)) all f k q2 (fs p) (odM M n i)) f k (fs p) (odM M n i) q3 ((c + 1 : Nat) : Int) 1 m3 = f_X12_parted_L40 N (fun (t67 : St) => some (1, t67)) all f k q2 s2 0 m5 ∧ mfr m3 m5 ∧ m5.1 80 = m3.1 80 ∧ m5.1 200 85 = m3.1 200 85 ∧ m5.1 200 88 = ((p + 1 : Nat) : Int) ∧ m5.1 86 = fup (m3.1 86) p (odM M n i) ∧ m5.1 87 = fup (m3.1 87) p c := by
            have hK : f_X12_parted_L58 N (pKK N (fun (t67 : St) => some (1, t67)) all f k q2 (fs p) (odM M n i)) f k (fs p) (odM M n i) q3 ((c + 1 : Nat) : Int) 1 m3 = pKK N (fun (t67 : St) => some (1, t67)) all f k q2 (fs p) (odM M n i) ((c + 1 : Nat) : Int) 1 m3 := by
              obtain ⟨q3, rfl⟩ : ∃ k, q3 = k + 1 := ⟨q3 - 1, by omega⟩
              unfold f_X12_parted_L58
              rw [cmpI_ok (by omega), cmpI_ok (by omega), if_neg (by decide : ¬ (1 : Int) = 0)]
              split <;> rfl
            rw [hK]
            have g88 : m3.1 200 88 = p := by rw [b7, pI_nf (by decide), h88]
            have g88b : ∀ x : Int, (pI m3 86 p x).1 200 88 = p := fun x => by rw [pI_ne (by decide), g88]
            have g88c : ∀ x y : Int, (pI (pI m3 86 p x) 87 p y).1 200 88 = p := fun x y => by rw [pI_ne (by decide)]; exact g88b x
            refine ⟨pI (pI (pI m3 86 p (odM M n i)) 87 p c) 200 88 ((p + 1 : Nat) : Int), ?_, ?_, ?_, ?_, pI_at, ?_, ?_⟩
            · unfold pKK
              simp only [lt1_k, jn1_k, g88, ep, g88b, g88c]
              rw [cmpI_ok (by omega), if_neg (by decide), ixI_ok (by omega), ixI_ok (by omega), show (((c + 1 : Nat) : Int) - 1) = (c : Int) by omega, show ((p : Int) + 1) = ((p + 1 : Nat) : Int) by omega]
              have hof : f_X12_ofCopy N f (pI (pI (pI m3 86 p (odM M n i)) 87 p c) 200 88 ((p + 1 : Nat) : Int)) = some (w, pI (pI (pI m3 86 p (odM M n i)) 87 p c) 200 88 ((p + 1 : Nat) : Int)) := by
                rw [← hmk]
                refine s_ofCopy hf40 ?_ hk8 (fun j hj => ?_) (by omega)
                · rw [pI_ne (by decide), pI_ne (by decide), pI_ne (by decide)]; exact (hO.fr hMm3).2.1
                · rw [pI_ne (by decide), pI_ne (by decide), pI_ne (by decide), (b8 hfb).1 j hj, wsm_fr hMm2]
              rw [hof, bdL_s, hs2]
            · exact ((mfr.I (by omega)).tr (mfr.I (by omega))).tr (mfr.F (by omega))
            · rw [pI_ne (by decide), pI_ne (by decide), pI_ne (by decide)]
            · rw [pI_nf (by decide), pI_ne (by decide), pI_ne (by decide)]
            · rw [pI_ne (by decide), pI_ne (by decide), pI_A, pA_at]
            · rw [pI_ne (by decide), pI_A, pA_at, pI_ne (by decide)]
          obtain ⟨m5, d1, d2, d3, d4, d5, d6, d7⟩ := h3kk
          rw [hhall, d1]
          have hft3 : hfp t0 (pI (pI (pI (pL (pI t 383 p (c : Int)) 384 p w) 382 (p + 1) i2) 383 (p + 1) (-1)) 311 9 ((p + 1 : Nat) : Int)) := ((hft2.tr (hfp.I (by omega))).tr (hfp.I (by omega))).tr hfp.F
          generalize ht3 : pI (pI (pI (pL (pI t 383 p (c : Int)) 384 p w) 382 (p + 1) i2) 383 (p + 1) (-1)) 311 9 ((p + 1 : Nat) : Int) = t3 at hft3
          have v9 : t3.1 311 9 = ((p + 1 : Nat) : Int) := by rw [← ht3, pI_at]
          have v383 : t3.1 383 (p + 1) = -1 := by rw [← ht3, pI_ne (by decide), pI_at]
          have v382 : t3.1 382 (p + 1) = i2 := by rw [← ht3, pI_ne (by decide), pI_ne (by decide), pI_at]
          have v383p : t3.1 383 p = c := by rw [← ht3, pI_ne (by decide), pI_nf (by omega), pI_ne (by decide), pL_I, pI_at]
          have v382p : t3.1 382 p = i := by rw [← ht3, pI_ne (by decide), pI_ne (by decide), pI_nf (by omega), pL_I, pI_ne (by decide), h382]
          have v384p : t3.2 384 p = w := by rw [← ht3]; show (pL (pI t 383 p (c : Int)) 384 p w).2 384 p = w; rw [pL_at]
          have vold : ∀ j, j < p → t3.1 382 j = t.1 382 j ∧ t3.1 383 j = t.1 383 j ∧ t3.2 384 j = t.2 384 j := by
            intro j hj
            rw [← ht3]
            refine ⟨?_, ?_, ?_⟩
            · rw [pI_ne (by decide), pI_ne (by decide), pI_nf (by omega), pL_I, pI_ne (by decide)]
            · rw [pI_ne (by decide), pI_nf (by omega), pI_ne (by decide), pL_I, pI_nf (by omega)]
            · show (pL (pI t 383 p (c : Int)) 384 p w).2 384 j = _; rw [pL_nf (by omega)]; rfl
          have hS2 : STK t3 m5 M n f k all (p + 1) (fun j => if j ≤ p then fs j else s2) := by
            have hS1 := hS.hi (u := t3) (v := m5) vold (fun j hj => by rw [d6, d7, fup_ne (by omega), fup_ne (by omega), b4, b5, pI_ne (by decide), pI_ne (by decide)]; exact ⟨rfl, rfl⟩)
            refine ⟨by simp only [Nat.zero_le, if_true]; exact hS.1, fun j hj => ?_⟩
            by_cases hjp : j = p
            · subst hjp
              refine ⟨i, c, hi, hc4, v382p, v383p, by rw [d6, fup_at], by rw [d7, fup_at], ?_, by rw [v384p, hmk], ?_, ?_, ?_, ?_, ?_⟩
              · simp only [Nat.le_refl, if_true]; exact hfb
              · dsimp only; rw [if_neg (by omega), if_pos (Nat.le_refl _), hmk, hs2]
              · simp only [Nat.le_refl, if_true]; exact hb
              · simp only [Nat.le_refl, if_true]; exact hfirst
              · simp only [Nat.le_refl, if_true]; exact hcn
              · simp only [Nat.le_refl, if_true]; exact hse
            · obtain ⟨x1, x2, y1, y2, y3, y4, y5, y6, y7, y8, y9⟩ := hS1.2 j (by omega)
              refine ⟨x1, x2, y1, y2, y3, y4, y5, y6, ?_, y8, ?_⟩
              · simp only [show j ≤ p by omega, if_true]; exact y7
              · simp only [show j ≤ p by omega, show j + 1 ≤ p by omega, if_true]; exact y9
          have hfm5 : mfr m0 m5 := hfm.tr (hm2.tr (b2.tr d2))
          obtain ⟨q2, rfl⟩ : ∃ k, q2 = k + 1 := ⟨q2 - 1, by omega⟩
          rw [pL40]
          by_cases hz : s2 = 0
          · -- all are parted
            rw [if_pos hz]
            obtain ⟨q, rfl⟩ : ∃ k, q = k + 1 := ⟨q - 1, by omega⟩
            refine ⟨0, 1, t3, m5, ?_, rfl, hft3, hfm5, Or.inr (Or.inr ⟨rfl, rfl, p + 1, fun j => if j ≤ p then fs j else s2, by omega, v9, d5, hS2, by dsimp only; rw [if_neg (by omega), hz]⟩)⟩
            unfold f_X2_part_L62
            rw [cmpI_ok (by omega), if_neg (by omega), if_pos hz, if_pos hz]
          · rw [if_neg hz]
            obtain ⟨i3, z1, z2, z3, z4⟩ := fo9_some (m := M) (n := n) hz (fun e he h => (hse e he (hsub e he h)))
            have h80' : ∀ j, j < n → m5.1 80 j = (odM M n j : Int) := fun j hj => by rw [d3, b3, pI_ne (by decide)]; exact h80 j hj
            rw [s_firstOf h64 h80' z2 z3 z4 (by omega), bdI_s]
            have hi3 : i2 = i3 := by rw [← hi2, z1, if_neg (by omega)]
            have hih := ih (p + 1) i3 0 (tr + 1) (tn + 1) (fun j => if j ≤ p then fs j else s2) t3 m5 q q2 N (by omega) (by omega) (by omega) (by omega) (by omega) (by omega) hft3 hfm5 h80' hS2
            simp only [show ¬ (p + 1 ≤ p) by omega, if_false] at hih
            exact hih hz (fun e he h => hse e he (hsub e he h)) v9 d5 (by rw [d4, b6, pI_at]; omega) (by rw [v383]; rfl) (by omega) (by rw [v382, hi3]) z2 z3 z4 (by omega)
        · -- it doesn't fit
          rw [if_neg hfb]
          rw [if_neg hfb] at hmem
          have hhall : f_X2_part_L62 N o (fun (k49 : Int64) (t50 : St) => (if k49 = (0 : Int64) then (some (0, t50)) else (some (4, t50)))) f k (q + 1) (fs p) tr tn t = f_X2_part_L62 N o (fun (k49 : Int64) (t50 : St) => (if k49 = (0 : Int64) then (some (0, t50)) else (some (4, t50)))) f k q (fs p) ((tr + 1 : Nat) : Int) ((tn + 1 : Nat) : Int) (pI t 383 p (c : Int)) := by
            conv => lhs; unfold f_X2_part_L62
            simp only [lt1_k, jn1_k, h9, ep, h383]
            rw [cmpI_ok (by omega), if_neg (by omega), if_neg hnz, ixI_ok (by omega), ixI_ok (by omega), show ((c : Int) - 1 + 1) = (c : Int) by omega]
            simp only [e9, ep, pI_at, e82, Int.toNat_natCast, eod]
            rw [ixI_ok (by omega), cmpI_ok (by omega), if_pos (by omega), cmpI_ok (by omega), if_neg (by omega), ixI_ok (by omega), ixI_ok (by omega), ixI_ok (by omega), hmem, bdL_s, if_pos rfl]
            rfl
          rw [hhall]
          refine ih p i (c + 1) (tr + 1) (tn + 1) fs (pI t 383 p (c : Int)) m3 q q2 q3 (by omega) (by omega) (by omega) (by omega) (by omega) (by omega) hft1 (hfm.tr (hm2.tr b2)) (fun j hj => by rw [b3, pI_ne (by decide)]; exact h80 j hj) ?_ hnz hse e9 (by rw [b7, pI_nf (by decide), h88]) (by rw [b6, pI_at]; omega) (by rw [pI_at]; omega) (by omega) e82 hi hb hfirst hcn
          refine hS.hi (fun j hj => ⟨by rw [pI_ne (by decide)], by rw [pI_nf (by omega)], rfl⟩) (fun j hj => by rw [b4, b5, pI_ne (by decide), pI_ne (by decide)]; exact ⟨rfl, rfl⟩)
    · -- none is left to try for this one
      have hc4' : c = 4 * k := by omega
      subst hc4'
      have hK : f_X12_parted_L58 N (pKK N (fun (t67 : St) => some (1, t67)) all f k q2 (fs p) (odM M n i)) f k (fs p) (odM M n i) q3 ((4 * k : Nat) : Int) 0 m = pKK N (fun (t67 : St) => some (1, t67)) all f k q2 (fs p) (odM M n i) ((4 * k : Nat) : Int) 0 m := by
        obtain ⟨q3, rfl⟩ : ∃ k, q3 = k + 1 := ⟨q3 - 1, by omega⟩
        unfold f_X12_parted_L58
        rw [cmpI_ok (by omega), if_neg (by omega)]
      rw [hK]
      have e9 : (pI t 383 p ((4 * k : Nat) : Int)).1 311 9 = p := by rw [pI_ne (by decide), h9]
      have hft1 : hfp t0 (pI t 383 p ((4 * k : Nat) : Int)) := hft.tr (hfp.I (by omega))
      by_cases hp0 : p = 0
      · refine ⟨3, 0, pI t 383 p ((4 * k : Nat) : Int), m, ?_, ?_, hft1, hfm, Or.inl ⟨rfl, rfl⟩⟩
        · unfold f_X2_part_L62
          simp only [lt1_k, jn1_k, h9, ep, h383]
          rw [cmpI_ok (by omega), if_neg (by omega), if_neg hnz, ixI_ok (by omega), ixI_ok (by omega), show (((4 * k : Nat) : Int) - 1 + 1) = ((4 * k : Nat) : Int) by omega]
          simp only [e9, ep, pI_at]
          rw [ixI_ok (by omega), cmpI_ok (by omega), if_neg (by omega), cmpI_ok (by omega), if_pos (by omega)]
        · unfold pKK
          simp only [lt1_k, jn1_k, h88]
          rw [cmpI_ok (by omega), if_pos trivial, cmpI_ok (by omega), if_pos (by omega)]
      · obtain ⟨p, rfl⟩ : ∃ k, p = k + 1 := ⟨p - 1, by omega⟩
        obtain ⟨i0, c0, y1, y2, y3, y4, y5, y6, y7, y8, y9⟩ := hS.2 p (by omega)
        have hd0 := odM_lt (m := M) (n := n) (i := i0) y1
        obtain ⟨y9, w1, w2, w3, w4⟩ := y9
        have hnz0 : fs p ≠ 0 := fun h => by rw [h, bq_0] at w1; cases w1
        have hfs : fs (p + 1) ||| mk9 (wsm M f (odM M n i0) c0) k = fs p := by
          rw [y9]
          exact sub_back (fun e he h => (fit_sub hH.1 y7 he h).1)
        have hhall : f_X2_part_L62 N o (fun (k49 : Int64) (t50 : St) => (if k49 = (0 : Int64) then (some (0, t50)) else (some (4, t50)))) f k (q + 1) (fs (p + 1)) tr tn t = f_X2_part_L62 N o (fun (k49 : Int64) (t50 : St) => (if k49 = (0 : Int64) then (some (0, t50)) else (some (4, t50)))) f k q (fs p) (tr : Int) ((tn + 1 : Nat) : Int) (pI (pI t 383 (p + 1) ((4 * k : Nat) : Int)) 311 9 (p : Int)) := by
          conv => lhs; unfold f_X2_part_L62
          simp only [lt1_k, jn1_k, h9, ep, h383]
          rw [cmpI_ok (by omega), if_neg (by omega), if_neg hnz, ixI_ok (by omega), ixI_ok (by omega), show (((4 * k : Nat) : Int) - 1 + 1) = ((4 * k : Nat) : Int) by omega]
          simp only [e9, ep, pI_at]
          rw [ixI_ok (by omega), cmpI_ok (by omega), if_neg (by omega), cmpI_ok (by omega), if_neg (by omega), show (((p + 1 : Nat) : Int) - 1) = (p : Int) by omega, ixI_ok (by omega), Int.toNat_natCast]
          have : (pI (pI t 383 (p + 1) ((4 * k : Nat) : Int)) 311 9 (p : Int)).2 384 p = mk9 (wsm M f (odM M n i0) c0) k := y8
          rw [this, hfs]
          rfl
        rw [hhall]
        have hm2 : mfr m (pI m 200 88 (p : Int)) := mfr.F (by omega)
        have hcp : ∀ j, j < p → (m.1 86 j).toNat < n ∧ (m.1 87 j).toNat < 4 * k ∧ fitb M f (m.1 86 j).toNat (m.1 87 j).toNat (fs j) k = true ∧ fs (j + 1) = fs j &&& (mk9 (wsm M f (m.1 86 j).toNat (m.1 87 j).toNat) k ^^^ (-1)) := by
          intro j hj
          obtain ⟨x1, x2, z1, z2, z3, z4, z5, z6, z7, z8, z9, _⟩ := hS.2 j (by omega)
          rw [z5, z6, Int.toNat_natCast, Int.toNat_natCast]
          exact ⟨(odM_lt z1).1, z2, z7, z9⟩
        obtain ⟨v, r1, r2, r3, r4, r5, r6, r7⟩ := s_redo (N := N) (p := p) (cp := fun j => ((m.1 86 j).toNat, (m.1 87 j).toNat)) hO hH.1 hS.1 hcp (by omega) (by omega) (fun (k57 : Int64) (t58 : St) => f_X12_parted_L40 N (fun (t67 : St) => some (1, t67)) all f k q2 k57 ((c0 : Int) + 1) t58) p 0 N (pI m 200 88 (p : Int)) (by omega) (by omega) (hMm.tr hm2) pI_at (fun j hj => by
          obtain ⟨x1, x2, z1, z2, z3, z4, z5, z6, _⟩ := hS.2 j (by omega)
          rw [pI_ne (by decide), pI_ne (by decide)]
          show m.1 86 j = ((m.1 86 j).toNat : Int) ∧ m.1 87 j = ((m.1 87 j).toNat : Int)
          rw [z5, z6, Int.toNat_natCast, Int.toNat_natCast]
          exact ⟨rfl, rfl⟩)
        have hpk : pKK N (fun (t67 : St) => some (1, t67)) all f k q2 (fs (p + 1)) (odM M n i) ((4 * k : Nat) : Int) 0 m = f_X12_parted_L40 N (fun (t67 : St) => some (1, t67)) all f k q2 (fs p) ((c0 : Int) + 1) v := by
          unfold pKK
          simp only [lt1_k, jn1_k, h88]
          rw [cmpI_ok (by omega), if_pos trivial, cmpI_ok (by omega), if_neg (by omega), show (((p + 1 : Nat) : Int) - 1) = (p : Int) by omega]
          simp only [pI_at, Int.toNat_natCast]
          rw [ixI_ok (by omega), pI_ne (by decide), y6]
          rw [hS.1, show ((0 : Nat) : Int) = 0 from rfl] at r1
          exact r1
        rw [hpk]
        obtain ⟨q2, rfl⟩ : ∃ k, q2 = k + 1 := ⟨q2 - 1, by omega⟩
        have h80' : ∀ j, j < n → v.1 80 j = (odM M n j : Int) := fun j hj => by rw [r3, pI_ne (by decide)]; exact h80 j hj
        rw [pL40, if_neg hnz0, s_firstOf h64 h80' y1 w1 w2 (by omega), bdI_s, show ((c0 : Int) + 1) = ((c0 + 1 : Nat) : Int) by omega]
        refine ih p i0 (c0 + 1) tr (tn + 1) fs (pI (pI t 383 (p + 1) ((4 * k : Nat) : Int)) 311 9 (p : Int)) v q q2 N (by omega) (by omega) (by omega) (by omega) (by omega) (by omega) (hft1.tr hfp.F) (hfm.tr (hm2.tr r2)) h80' ?_ hnz0 w4 pI_at (by rw [r7, pI_at]) (by rw [r6, pI_nf (by decide), h85]) (by rw [pI_ne (by decide), pI_nf (by omega), y4]; omega) (by omega) (by rw [pI_ne (by decide), pI_ne (by decide), y3]) y1 w1 w2 w3
        refine (STK.hi (u := pI (pI t 383 (p + 1) ((4 * k : Nat) : Int)) 311 9 (p : Int)) (v := v) (p := p) ⟨hS.1, fun j hj => hS.2 j (by omega)⟩ (fun j hj => ⟨?_, ?_, rfl⟩) (fun j hj => by rw [r4, r5, pI_ne (by decide), pI_ne (by decide)]; exact ⟨rfl, rfl⟩))
        · rw [pI_ne (by decide), pI_ne (by decide)]
        · rw [pI_ne (by decide), pI_nf (by omega)]
