/-! who moves where: both sides -/
/-- figures on both sides -/
def FGr (t m : St) : Prop := (t.1 313 2 = m.1 200 15 ∧ 0 ≤ m.1 200 15 ∧ m.1 200 15 ≤ 100) ∧ ∀ F : Nat, (F : Int) < m.1 200 15 → ∃ f : Nat, m.1 23 F = f ∧ t.1 354 F = f ∧ (f : Int) < m.1 200 14 ∧ (t.1 355 F = m.1 24 F ∧ 0 ≤ m.1 24 F ∧ m.1 24 F ≤ 64) ∧ (t.1 356 F = m.1 25 F ∧ 0 ≤ m.1 25 F ∧ m.1 25 F ≤ 1000) ∧
  ∀ j : Nat, (j : Int) < m.1 18 f → (t.1 357 (8 * F + j) = m.1 26 (8 * F + j) ∧ -32 ≤ m.1 26 (8 * F + j) ∧ m.1 26 (8 * F + j) ≤ 32) ∧ (t.1 358 (8 * F + j) = m.1 27 (8 * F + j) ∧ -32 ≤ m.1 27 (8 * F + j) ∧ m.1 27 (8 * F + j) ≤ 32) ∧ (t.1 359 (8 * F + j) = m.1 28 (8 * F + j) ∧ -8 ≤ m.1 28 (8 * F + j) ∧ m.1 28 (8 * F + j) ≤ 8)
/-- where all would go -/
def RMv (t m : St) (n : Nat) : Prop := ∀ d, d < n → (t.1 373 d = m.1 76 d ∧ -64 ≤ m.1 76 d ∧ m.1 76 d ≤ 316) ∧ (t.1 374 d = m.1 77 d ∧ -64 ≤ m.1 77 d ∧ m.1 77 d ≤ 316) ∧ m.1 78 d = (m.1 40 d + t.1 375 d) % 4 ∧ m.1 79 d = m.1 41 d + t.1 375 d ∧ -8 ≤ t.1 375 d ∧ t.1 375 d ≤ 8
def hmv (t u : St) : Prop := (∀ a, a ≠ 373 → a ≠ 374 → a ≠ 375 → u.1 a = t.1 a) ∧ u.2 = t.2
def mmv (m w : St) : Prop := (∀ a, a ≠ 76 → a ≠ 77 → a ≠ 78 → a ≠ 79 → w.1 a = m.1 a) ∧ w.2 = m.2
theorem hmv.rf {t : St} : hmv t t := ⟨fun _ _ _ _ => rfl, rfl⟩
theorem mmv.rf {m : St} : mmv m m := ⟨fun _ _ _ _ _ => rfl, rfl⟩
theorem hmv.tr {t u v : St} (h : hmv t u) (g : hmv u v) : hmv t v := ⟨fun a h1 h2 h3 => (g.1 a h1 h2 h3).trans (h.1 a h1 h2 h3), g.2.trans h.2⟩
theorem mmv.tr {m u v : St} (h : mmv m u) (g : mmv u v) : mmv m v := ⟨fun a h1 h2 h3 h4 => (g.1 a h1 h2 h3 h4).trans (h.1 a h1 h2 h3 h4), g.2.trans h.2⟩
theorem hmv.I {t : St} {a i : Nat} {v : Int} (h : a = 373 ∨ a = 374 ∨ a = 375) : hmv t (pI t a i v) := ⟨fun b h1 h2 h3 => pI_ne (by omega), rfl⟩
theorem mmv.I {t : St} {a i : Nat} {v : Int} (h : a = 76 ∨ a = 77 ∨ a = 78 ∨ a = 79) : mmv t (pI t a i v) := ⟨fun b h1 h2 h3 h4 => pI_ne (by omega), rfl⟩
theorem hmv.hm {o n : Nat} {t u m : St} (g : hmv t u) (h : hmF o t m n) (ho : o < 2) : hmF o u m n := by
  refine ⟨h.1, ?_⟩
  unfold FH
  rw [g.1 (305 + o) (by omega) (by omega) (by omega), g.1 (390 + 10 * o) (by omega) (by omega) (by omega), g.1 (391 + 10 * o) (by omega) (by omega) (by omega), g.1 (392 + 10 * o) (by omega) (by omega) (by omega), g.1 (397 + 10 * o) (by omega) (by omega) (by omega)]
  exact h.2
theorem hmv.fo {t u m : St} {f k : Nat} (g : hmv t u) (h : fhO t m f k) : fhO u m f k := by
  unfold fhO
  rw [g.1 350 (by decide) (by decide) (by decide), g.1 351 (by decide) (by decide) (by decide), g.1 352 (by decide) (by decide) (by decide), g.1 353 (by decide) (by decide) (by decide)]
  exact h
theorem cp_rng2 {m : St} {n f k d c : Nat} (hF : fmF m n) (hO : fmO m f k) (hd : d < n) (hc : c < 4 * k) : (-32 ≤ cpx m f d c ∧ cpx m f d c ≤ 284) ∧ (-32 ≤ cpy m f d c ∧ cpy m f d c ≤ 284) := by
  have hdd := hF.2.2.1 d hd
  have hcs := hO.2.2.2.2.1 (c / 4) (by omega)
  have cx := tX9_rng (r := ((c % 4 : Nat) : Int)) hcs.1 hcs.2.1
  have cy := tY9_rng (r := ((c % 4 : Nat) : Int)) hcs.1 hcs.2.1
  unfold cpx cpy
  omega
/-- what the slots' goals are -/
def TOr (t m : St) (F k : Nat) : Prop := F < 100 ∧ ∀ j, j < k → (t.1 357 (8 * F + j) = m.1 26 (8 * F + j) ∧ -32 ≤ m.1 26 (8 * F + j) ∧ m.1 26 (8 * F + j) ≤ 32) ∧ (t.1 358 (8 * F + j) = m.1 27 (8 * F + j) ∧ -32 ≤ m.1 27 (8 * F + j) ∧ m.1 27 (8 * F + j) ≤ 32) ∧ (t.1 359 (8 * F + j) = m.1 28 (8 * F + j) ∧ -8 ≤ m.1 28 (8 * F + j) ∧ m.1 28 (8 * F + j) ≤ 8)
theorem TOr.mv {t u m w : St} {F k : Nat} (h : TOr t m F k) (g : hmv t u) (g2 : mmv m w) : TOr u w F k := by
  unfold TOr
  rw [g.1 357 (by decide) (by decide) (by decide), g.1 358 (by decide) (by decide) (by decide), g.1 359 (by decide) (by decide) (by decide), g2.1 26 (by decide) (by decide) (by decide) (by decide), g2.1 27 (by decide) (by decide) (by decide) (by decide), g2.1 28 (by decide) (by decide) (by decide) (by decide)]
  exact h
theorem mv_slots {N o n f k d c F : Nat} {M : St} {s : Int64} (ho : o < 2) (hO : fmO M f k) (hF : fmF M n) (hd : d < n) (hc : c < 4 * k) (hfb : fitb M f d c s k = true) : ∀ (i j : Nat) (t m : St), j + i = k → hmF o t M n → fhO t M f k → TOr t m F k → m.1 18 f = k → (∀ x, x < k → m.1 81 x = wsm M f d c x) → m.1 200 82 = cpx M f d c → m.1 200 83 = cpy M f d c → m.1 200 84 = ((c % 4 : Nat) : Int) → RMv t m n →
    ∃ (u w : St), (∀ (K : St → Option St) (q : Nat), i < q → f_X1_moveCopy_L70 N o K F c d f ((c % 4 : Nat) : Int) (cpx M f d c) (cpy M f d c) q j t = K u) ∧ (∀ (K : St → Option St) (q : Nat), i < q → f_X12_moves_L54 N K f F q j m = K w) ∧ hmv t u ∧ mmv m w ∧ RMv u w n := by
  have h64 := hF.2.1
  have hf40 := hO.1
  have hk8 := hO.2.2.2.1
  have hcr := cp_rng2 hF hO hd hc
  have hc4 : c % 4 < 4 := Nat.mod_lt _ (by decide)
  have hir : inR ((c % 4 : Nat) : Int) := ⟨by omega, by omega⟩
  intro i
  induction i with
  | zero =>
    intro j t m h1 hH hf hT h18 h81 h82 h83 h84 hR
    have : j = k := by omega
    subst this
    refine ⟨t, m, fun K q hq => ?_, fun K q hq => ?_, hmv.rf, mmv.rf, hR⟩
    · obtain ⟨q, rfl⟩ : ∃ k, q = k + 1 := ⟨q - 1, by omega⟩
      unfold f_X1_moveCopy_L70
      rw [ixI_ok (by omega), lt1_k, Int.toNat_natCast, hf.1, cmpI_ok (by omega), if_neg (by omega)]
    · obtain ⟨q, rfl⟩ : ∃ k, q = k + 1 := ⟨q - 1, by omega⟩
      unfold f_X12_moves_L54
      rw [ixI_ok (by omega), lt1_k, Int.toNat_natCast, h18, cmpI_ok (by omega), if_neg (by omega)]
  | succ i ih =>
    intro j t m h1 hH hf hT h18 h81 h82 h83 h84 hR
    obtain ⟨w0, w1, w2, w3⟩ := fit_w hF hfb (show j < k by omega)
    obtain ⟨tx, ty, tt⟩ := hT.2 j (by omega)
    have hF100 := hT.1
    have rx := tX9_rng (r := ((c % 4 : Nat) : Int)) tx.2 ty.2
    have ry := tY9_rng (r := ((c % 4 : Nat) : Int)) tx.2 ty.2
    have e1 : (((F : Int) * 8) + (j : Int)).toNat = 8 * F + j := by omega
    have e2 : ((8 * (F : Int)) + (j : Int)).toNat = 8 * F + j := by omega
    have e3 : ((j : Int) + 1) = ((j + 1 : Nat) : Int) := by omega
    generalize hvx : cpx M f d c + tX9 (m.1 26 (8 * F + j)) (m.1 27 (8 * F + j)) ((c % 4 : Nat) : Int) = vx
    generalize hvy : cpy M f d c + tY9 (m.1 26 (8 * F + j)) (m.1 27 (8 * F + j)) ((c % 4 : Nat) : Int) = vy
    have hU : hmv t (pI (pI (pI t 373 w0 vx) 374 w0 vy) 375 w0 (m.1 28 (8 * F + j))) := ((hmv.I (by omega)).tr (hmv.I (by omega))).tr (hmv.I (by omega))
    have hM2 : mmv m (pI (pI (pI (pI m 76 w0 vx) 77 w0 vy) 78 w0 ((m.1 40 w0 + m.1 28 (8 * F + j)) % 4)) 79 w0 (m.1 41 w0 + m.1 28 (8 * F + j))) := ((mmv.I (by omega)).tr (mmv.I (by omega))).tr ((mmv.I (by omega)).tr (mmv.I (by omega)))
    have hR2 : RMv (pI (pI (pI t 373 w0 vx) 374 w0 vy) 375 w0 (m.1 28 (8 * F + j))) (pI (pI (pI (pI m 76 w0 vx) 77 w0 vy) 78 w0 ((m.1 40 w0 + m.1 28 (8 * F + j)) % 4)) 79 w0 (m.1 41 w0 + m.1 28 (8 * F + j))) n := by
      intro x hx
      have a373 : (pI (pI (pI t 373 w0 vx) 374 w0 vy) 375 w0 (m.1 28 (8 * F + j))).1 373 = (pI t 373 w0 vx).1 373 := by rw [pI_ne (by decide), pI_ne (by decide)]
      have a374 : (pI (pI (pI t 373 w0 vx) 374 w0 vy) 375 w0 (m.1 28 (8 * F + j))).1 374 = (pI (pI t 373 w0 vx) 374 w0 vy).1 374 := by rw [pI_ne (by decide)]
      have b76 : (pI (pI (pI (pI m 76 w0 vx) 77 w0 vy) 78 w0 ((m.1 40 w0 + m.1 28 (8 * F + j)) % 4)) 79 w0 (m.1 41 w0 + m.1 28 (8 * F + j))).1 76 = (pI m 76 w0 vx).1 76 := by rw [pI_ne (by decide), pI_ne (by decide), pI_ne (by decide)]
      have b77 : (pI (pI (pI (pI m 76 w0 vx) 77 w0 vy) 78 w0 ((m.1 40 w0 + m.1 28 (8 * F + j)) % 4)) 79 w0 (m.1 41 w0 + m.1 28 (8 * F + j))).1 77 = (pI (pI m 76 w0 vx) 77 w0 vy).1 77 := by rw [pI_ne (by decide), pI_ne (by decide)]
      have b78 : (pI (pI (pI (pI m 76 w0 vx) 77 w0 vy) 78 w0 ((m.1 40 w0 + m.1 28 (8 * F + j)) % 4)) 79 w0 (m.1 41 w0 + m.1 28 (8 * F + j))).1 78 = (pI (pI (pI m 76 w0 vx) 77 w0 vy) 78 w0 ((m.1 40 w0 + m.1 28 (8 * F + j)) % 4)).1 78 := by rw [pI_ne (by decide)]
      rw [a373, a374, b76, b77, b78, hM2.1 40 (by decide) (by decide) (by decide) (by decide), hM2.1 41 (by decide) (by decide) (by decide) (by decide)]
      by_cases hxw : x = w0
      · subst hxw
        rw [pI_at, pI_at, pI_at, pI_at, pI_at, pI_at, pI_at]
        omega
      · have := hR x hx
        simp only [pI_nf hxw]
        exact this
    obtain ⟨u, w, g1, g2, g3, g4, g5⟩ := ih (j + 1) _ _ (by omega) (hU.hm hH ho) (hU.fo hf) (hT.mv hU hM2) (by rw [hM2.1 18 (by decide) (by decide) (by decide) (by decide)]; exact h18) (fun x hx => by rw [hM2.1 81 (by decide) (by decide) (by decide) (by decide)]; exact h81 x hx) (by rw [hM2.1 200 (by decide) (by decide) (by decide) (by decide)]; exact h82) (by rw [hM2.1 200 (by decide) (by decide) (by decide) (by decide)]; exact h83) (by rw [hM2.1 200 (by decide) (by decide) (by decide) (by decide)]; exact h84) hR2
    refine ⟨u, w, fun K q hq => ?_, fun K q hq => ?_, hU.tr g3, hM2.tr g4, g5⟩
    · obtain ⟨q, rfl⟩ : ∃ k, q = k + 1 := ⟨q - 1, by omega⟩
      unfold f_X1_moveCopy_L70
      have t357 : ∀ (y : Int), (pI t 373 w0 y).1 357 = t.1 357 := fun y => pI_ne (by decide)
      have t358 : ∀ (y : Int), (pI t 373 w0 y).1 358 = t.1 358 := fun y => pI_ne (by decide)
      have t359 : ∀ (y z : Int), (pI (pI t 373 w0 y) 374 w0 z).1 359 = t.1 359 := fun y z => by rw [pI_ne (by decide), pI_ne (by decide)]
      simp only [lt1_k, jn1_k, Int.toNat_natCast]
      rw [ixI_ok (by omega), hf.1, cmpI_ok (by omega), if_pos (by omega), h_whoIsIn hH hO hf hd hc (by omega), bdI_s, w1, cmpI_ok (by omega), if_neg (by omega)]
      simp only [e1, Int.toNat_natCast]
      rw [ixI_ok (by omega), ixI_ok (by omega), tx.1, ty.1, h_tX hir, bdI_s, ixI_ok (by omega), hvx]
      simp only [t357, t358]
      rw [ixI_ok (by omega), ixI_ok (by omega), tx.1, ty.1, h_tY hir, bdI_s, ixI_ok (by omega), hvy]
      simp only [t359]
      rw [ixI_ok (by omega), tt.1, ixI_ok (by omega), e3]
      exact g1 K q (by omega)
    · obtain ⟨q, rfl⟩ : ∃ k, q = k + 1 := ⟨q - 1, by omega⟩
      unfold f_X12_moves_L54
      simp only [lt1_k, e2, Int.toNat_natCast, h81 j (by omega), h82, h84, w1]
      rw [ixI_ok (by omega), h18, cmpI_ok (by omega), if_pos (by omega), ixI_ok (by omega), ixI_ok (by omega), ixI_ok (by omega), s_tX hir, bdI_s, ixI_ok (by omega), hvx]
      have m26 : (pI m 76 w0 vx).1 26 = m.1 26 := pI_ne (by decide)
      have m27 : (pI m 76 w0 vx).1 27 = m.1 27 := pI_ne (by decide)
      have m200 : (pI m 76 w0 vx).1 200 = m.1 200 := pI_ne (by decide)
      simp only [m26, m27, m200, h83, h84]
      rw [ixI_ok (by omega), ixI_ok (by omega), s_tY hir, bdI_s, ixI_ok (by omega), hvy]
      have m40 : (pI (pI m 76 w0 vx) 77 w0 vy).1 40 = m.1 40 := by rw [pI_ne (by decide), pI_ne (by decide)]
      have m28 : (pI (pI m 76 w0 vx) 77 w0 vy).1 28 = m.1 28 := by rw [pI_ne (by decide), pI_ne (by decide)]
      simp only [m40, m28]
      rw [ixI_ok (by omega), ixI_ok (by omega)]
      have hturn : ∀ (y : Int) (x : St), f_X12_turns N y x = some (y % 4, x) := fun y x => rfl
      rw [hturn, bdI_s, ixI_ok (by omega)]
      have m41 : (pI (pI (pI m 76 w0 vx) 77 w0 vy) 78 w0 ((m.1 40 w0 + m.1 28 (8 * F + j)) % 4)).1 41 = m.1 41 := by rw [pI_ne (by decide), pI_ne (by decide), pI_ne (by decide)]
      have m28b : (pI (pI (pI m 76 w0 vx) 77 w0 vy) 78 w0 ((m.1 40 w0 + m.1 28 (8 * F + j)) % 4)).1 28 = m.1 28 := by rw [pI_ne (by decide), pI_ne (by decide), pI_ne (by decide)]
      simp only [m41, m28b]
      rw [ixI_ok (by omega), ixI_ok (by omega), ixI_ok (by omega), e3]
      exact g2 K q (by omega)
/-- all copies of a partition -/
theorem mv_copies {N o n f k F p : Nat} {M : St} {all : Int64} {fs : Nat → Int64} (ho : o < 2) (hO : fmO M f k) (hF : fmF M n) (hN : 70 ≤ N) (hp : p ≤ 64) : ∀ (i j : Nat) (t m : St), j + i = p → hmF o t M n → hoO o t M n → fhO t M f k → TOr t m F k → mk5 M m → STK t m M n f k all p fs → t.1 311 9 = p → m.1 200 88 = p → t.1 354 F = f → RMv t m n →
    ∃ (u w : St), (∀ (K : St → Option (Int × St)) (q : Nat), i < q → f_X1_move_L86 N o K F q j t = K u) ∧ (∀ (K : St → Option St) (q : Nat), i < q → f_X12_moves_L6 N K f F q (fs j) j m = K w) ∧ hmv t u ∧ mk5 m w ∧ w.1 74 = m.1 74 ∧ w.1 200 75 = m.1 200 75 ∧ w.2 = m.2 ∧ RMv u w n := by
  have h64 := hF.2.1
  have hf40 := hO.1
  have hk8 := hO.2.2.2.1
  intro i
  induction i with
  | zero =>
    intro j t m h1 hH hor hf hT hM hS h9 h88 h354 hR
    have : j = p := by omega
    subst this
    refine ⟨t, m, fun K q hq => ?_, fun K q hq => ?_, hmv.rf, mk5.rf, rfl, rfl, rfl, hR⟩
    · obtain ⟨q, rfl⟩ : ∃ k, q = k + 1 := ⟨q - 1, by omega⟩
      unfold f_X1_move_L86
      rw [lt1_k, h9, cmpI_ok (by omega), if_neg (by omega)]
    · obtain ⟨q, rfl⟩ : ∃ k, q = k + 1 := ⟨q - 1, by omega⟩
      unfold f_X12_moves_L6
      rw [lt1_k, h88, cmpI_ok (by omega), if_neg (by omega)]
  | succ i ih =>
    intro j t m h1 hH hor hf hT hM hS h9 h88 h354 hR
    obtain ⟨i0, c0, y1, y2, y3, y4, y5, y6, y7, y8, y9, y10⟩ := hS.2 j (by omega)
    have hd := odM_lt (m := M) (n := n) (i := i0) y1
    have hF100 := hT.1
    -- the model: fits again
    have e : ∀ a, a < 70 → m.1 a = M.1 a := fun a h => hM.1 a (by omega) (by omega) (by omega) (by omega) (by omega) (by omega) (by omega) (by omega) (by omega) (by omega)
    have hOm : fmO m f k := by
      unfold fmO
      rw [e 18 (by decide), e 19 (by decide), e 20 (by decide), e 21 (by decide), e 22 (by decide)]
      exact hO
    have hFm : fmF m n := by
      unfold fmF
      rw [e 38 (by decide), e 39 (by decide), e 40 (by decide), hM.2.1 37 (by decide) (by decide) (by decide) (by decide) (by decide) (by decide) (by decide) (by decide) (by decide) (by decide)]
      exact hF
    have ag : agr m M n f k := by
      refine ⟨by rw [hFm.1, hF.1], fun d hd => ?_, fun j hj => ?_⟩
      · rw [e 38 (by decide), e 39 (by decide), e 40 (by decide)]; exact ⟨rfl, rfl, rfl⟩
      · rw [e 19 (by decide), e 20 (by decide), e 21 (by decide), e 22 (by decide)]; exact ⟨rfl, rfl, rfl, rfl⟩
    have hfitm : fitb m f (odM M n i0) c0 (fs j) k = true := by rw [agr_fit ag hF hd.1 y2 k (Nat.le_refl _)]; exact y7
    obtain ⟨m1, a1, a2, a3, a4, a5, a6, a7, a8⟩ := s_fits (N := N) (s := fs j) hFm hOm hd.1 y2 hN
    have a8 := a8 hfitm
    rw [if_pos hfitm] at a1
    have hcx : cpx m f (odM M n i0) c0 = cpx M f (odM M n i0) c0 := by unfold cpx; rw [e 38 (by decide), e 19 (by decide), e 20 (by decide)]
    have hcy : cpy m f (odM M n i0) c0 = cpy M f (odM M n i0) c0 := by unfold cpy; rw [e 39 (by decide), e 19 (by decide), e 20 (by decide)]
    have hw81 : ∀ x, x < k → m1.1 81 x = wsm M f (odM M n i0) c0 x := fun x hx => by rw [a8.1 x hx, agr_w ag hF hd.1 y2 hx]
    have hof : f_X12_ofCopy N f m1 = some (mk9 (wsm M f (odM M n i0) c0) k, m1) := s_ofCopy hf40 (hOm.fr a2).2.1 hk8 hw81 (by omega)
    have em1 : ∀ a, a ≠ 80 → a ≠ 81 → a ≠ 86 → a ≠ 87 → a ≠ 200 → m1.1 a = m.1 a := a2.1
    have hT1 : TOr t m1 F k := by
      unfold TOr
      rw [em1 26 (by decide) (by decide) (by decide) (by decide) (by decide), em1 27 (by decide) (by decide) (by decide) (by decide) (by decide), em1 28 (by decide) (by decide) (by decide) (by decide) (by decide)]
      exact hT
    have hR1 : RMv t m1 n := by
      unfold RMv
      rw [em1 76 (by decide) (by decide) (by decide) (by decide) (by decide), em1 77 (by decide) (by decide) (by decide) (by decide) (by decide), em1 78 (by decide) (by decide) (by decide) (by decide) (by decide), em1 79 (by decide) (by decide) (by decide) (by decide) (by decide), em1 40 (by decide) (by decide) (by decide) (by decide) (by decide), em1 41 (by decide) (by decide) (by decide) (by decide) (by decide)]
      exact hR
    obtain ⟨u, w, g1, g2, g3, g4, g5⟩ := mv_slots (N := N) (F := F) ho hO hF hd.1 y2 y7 k 0 t m1 (by omega) hH hf hT1 (hOm.fr a2).2.1 hw81 (by rw [a8.2.1, hcx]) (by rw [a8.2.2.1, hcy]) a8.2.2.2 hR1
    have hmw : mk5 m w := by
      refine a2.m4.m5.tr ⟨fun a _ h2 h3 h4 h5 _ _ _ _ h10 => g4.1 a h2 h3 h4 h5, fun b _ _ _ _ _ _ _ _ _ _ => by rw [g4.1 200 (by decide) (by decide) (by decide) (by decide)], fun a _ => by rw [g4.2]⟩
    have hTw : TOr u w F k := hT1.mv g3 g4
    have hSw : STK u w M n f k all p fs := hS.hi (fun j hj => by rw [g3.1 382 (by decide) (by decide) (by decide), g3.1 383 (by decide) (by decide) (by decide), g3.2]; exact ⟨rfl, rfl, rfl⟩) (fun j hj => by rw [g4.1 86 (by decide) (by decide) (by decide) (by decide), g4.1 87 (by decide) (by decide) (by decide) (by decide), a4, a5]; exact ⟨rfl, rfl⟩)
    obtain ⟨u2, w2, k1, k2, k3, k4, k5, k6, k7, k8⟩ := ih (j + 1) u w (by omega) (g3.hm hH ho) (by unfold hoO; rw [g3.1 (395 + 10 * o) (by omega) (by omega) (by omega)]; exact hor) (g3.fo hf) hTw (hM.tr hmw) hSw (by rw [g3.1 311 (by decide) (by decide) (by decide)]; exact h9) (by rw [g4.1 200 (by decide) (by decide) (by decide) (by decide), a7]; exact h88) (by rw [g3.1 354 (by decide) (by decide) (by decide)]; exact h354) g5
    refine ⟨u2, w2, fun K q hq => ?_, fun K q hq => ?_, g3.tr k3, hmw.tr k4, ?_, ?_, ?_, k8⟩
    · obtain ⟨q, rfl⟩ : ∃ k, q = k + 1 := ⟨q - 1, by omega⟩
      unfold f_X1_move_L86
      have hca : f_X2_copyAt N j t = some ((c0 : Int), t) := by unfold f_X2_copyAt; rw [ixI_ok (by omega), lt1_k, Int.toNat_natCast, y4]
      have hfa : f_X2_firstAt N j t = some ((i0 : Int), t) := by unfold f_X2_firstAt; rw [ixI_ok (by omega), lt1_k, Int.toNat_natCast, y3]
      have hmc : f_X1_moveCopy N o F c0 (odM M n i0) t = some u := by
        unfold f_X1_moveCopy
        have hdd := hH.2.2.1 (odM M n i0) hd.1
        have e1 : ((((f : Int) * 8) * 4) + (c0 : Int)).toNat = 32 * f + c0 := by omega
        have ec2 : ((c0 : Int) % 4) = ((c0 % 4 : Nat) : Int) := by omega
        simp only [lt1_k, Int.toNat_natCast, h354, e1, ec2]
        rw [ixI_ok (by omega), ixI_ok (by omega), ixI_ok (by omega), ixI_ok (by omega), ixI_ok (by omega), hdd.1, hdd.2.1, hf.cx y2, hf.cy y2]
        exact g1 (fun t33 => some t33) N (by omega)
      rw [lt1_k, h9, cmpI_ok (by omega), if_pos (by omega), hca, bdI_s, hfa, bdI_s, ixI_ok (by omega), lt1_k, Int.toNat_natCast, hor i0 y1, hmc, bdV_s, show ((j : Int) + 1) = ((j + 1 : Nat) : Int) by omega]
      exact k1 K q (by omega)
    · obtain ⟨q, rfl⟩ : ∃ k, q = k + 1 := ⟨q - 1, by omega⟩
      unfold f_X12_moves_L6
      rw [lt1_k, h88, cmpI_ok (by omega), if_pos (by omega), ixI_ok (by omega), lt1_k, Int.toNat_natCast, ixI_ok (by omega), lt1_k, y5, y6, a1, bdI_s, hof, bdL_s, show (0 : Int) = ((0 : Nat) : Int) from rfl, g2 _ N (by omega), show ((j : Int) + 1) = ((j + 1 : Nat) : Int) by omega, ← y9]
      exact k2 K q (by omega)
    · rw [k5, g4.1 74 (by decide) (by decide) (by decide) (by decide), em1 74 (by decide) (by decide) (by decide) (by decide) (by decide)]
    · rw [k6, g4.1 200 (by decide) (by decide) (by decide) (by decide), a2.2.1 75 (by decide) (by decide) (by decide) (by decide) (by decide)]
    · rw [k7, g4.2, a2.2.2]
