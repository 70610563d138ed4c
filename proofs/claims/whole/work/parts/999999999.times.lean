/-! times: one dancing through -/
/-- what times leaves of the hall while it tries -/
def TFh (t u : St) : Prop := (∀ x, x ≠ 304 → x ≠ 306 → x ≠ 308 → x ≠ 311 → (x < 372 ∨ 383 < x) → (x < 400 ∨ 407 < x) → u.1 x = t.1 x) ∧ ((∀ b, b < 11 → u.1 304 b = t.1 304 b) ∧ (∀ b, b ≠ 3 → b ≠ 4 → b ≠ 9 → u.1 311 b = t.1 311 b) ∧ (∀ b, b ≠ 8 → b ≠ 9 → u.1 306 b = t.1 306 b)) ∧ (∀ x, x ≠ 384 → x ≠ 370 → x ≠ 371 → x ≠ 311 → x ≠ 308 → x ≠ 411 → x ≠ 406 → u.2 x = t.2 x)
theorem TFh.tr {t u v : St} (h : TFh t u) (g : TFh u v) : TFh t v := ⟨fun x h1 h2 h3 h4 h5 h6 => (g.1 x h1 h2 h3 h4 h5 h6).trans (h.1 x h1 h2 h3 h4 h5 h6), ⟨fun b hb => (g.2.1.1 b hb).trans (h.2.1.1 b hb), fun b h1 h2 h3 => (g.2.1.2.1 b h1 h2 h3).trans (h.2.1.2.1 b h1 h2 h3), fun b h1 h2 => (g.2.1.2.2 b h1 h2).trans (h.2.1.2.2 b h1 h2)⟩, fun x h1 h2 h3 h4 h5 h6 h7 => (g.2.2 x h1 h2 h3 h4 h5 h6 h7).trans (h.2.2 x h1 h2 h3 h4 h5 h6 h7)⟩
theorem TFh.s {t u : St} (g : GHs 1 t u) : TFh t u := ⟨fun x _ _ h3 h4 h5 _ => g.1 x h3 h4 (by omega), ⟨fun b _ => by rw [g.1 304 (by decide) (by decide) (by decide)], fun b h1 h2 h3 => g.2.2.1 b h1 h2 h3, fun b _ _ => by rw [g.1 306 (by decide) (by decide) (by decide)]⟩, fun x h1 h2 _ h4 h5 h6 _ => g.2.2.2 x h1 h2 h4 h5 h6⟩
theorem TFh.d {t u : St} (g : DHs 1 t u) : TFh t u := ⟨fun x h1 h2 h3 h4 h5 h6 => g.1 x h1 h2 h3 h4 h5 (by omega), ⟨g.2.1.1, g.2.1.2.2.1, g.2.1.2.2.2⟩, fun x h1 h2 h3 h4 h5 h6 h7 => g.2.2 x h1 h2 h3 h4 h5 h6 h7⟩
theorem DMs.tr {t u v : St} (h : DMs t u) (g : DMs u v) : DMs t v := ⟨fun x h1 h2 h3 h4 h5 h6 => (g.1 x h1 h2 h3 h4 h5 h6).trans (h.1 x h1 h2 h3 h4 h5 h6), fun b h1 h2 h3 h4 h5 h6 h7 h8 => (g.2.1 b h1 h2 h3 h4 h5 h6 h7 h8).trans (h.2.1 b h1 h2 h3 h4 h5 h6 h7 h8), fun x h1 h2 => (g.2.2 x h1 h2).trans (h.2.2 x h1 h2)⟩
theorem DMs.s {m v : St} (g : GMs m v) : DMs m v := ⟨fun x h1 h2 h3 h4 h5 h6 => g.1 x (by omega) (by omega) h4 h5 h6 (by omega) (by omega) (by omega), fun b h1 h2 h3 h4 h5 h6 h7 h8 => g.2.1 b h3 h5 h6 h7 h8, fun x h1 _ => g.2.2 x h1⟩
/-- the book is not touched by what is danced -/
theorem BK0.d {t u m v : St} (hB : BK0 t m) (g : TFh t u) (g2 : DMs m v) : BK0 u v := by
  have f : ∀ x, (x = 302 ∨ (312 ≤ x ∧ x ≤ 314) ∨ (350 ≤ x ∧ x ≤ 363)) → u.1 x = t.1 x := fun x hx => g.1 x (by omega) (by omega) (by omega) (by omega) (by omega) (by omega)
  have e : ∀ b, b < 42 → v.1 200 b = m.1 200 b := fun b hb => g2.2.1 b (by omega) (by omega) (by omega) (by omega) (by omega) (by omega) (by omega) (by omega)
  exact hB.mv (fun x y hx _ => by rw [f x hx]) (fun x y hx _ => by rw [g2.1 x (by omega) (by omega) (by omega) (by omega) (by omega) (by omega)]) (fun s x hs _ => by rw [g.2.2 (340 + s) (by omega) (by omega) (by omega) (by omega) (by omega) (by omega) (by omega)]) ⟨by rw [f 312 (by omega)], by rw [f 313 (by omega)], by rw [f 314 (by omega)]⟩ ⟨by rw [f 302 (by omega)], by rw [f 302 (by omega)], by rw [f 302 (by omega)]⟩ ⟨e 13 (by omega), e 14 (by omega), e 15 (by omega), e 16 (by omega), e 17 (by omega), e 33 (by omega)⟩
/-- both sides while times tries; x: how many steps were danced -/
def TMr (n : Nat) (S V : Int) (x : Nat) (t0 m0 t m : St) : Prop := (EVr 1 t m n ∧ BK0 t m ∧ 1 ≤ n) ∧ ((0 ≤ t.1 308 9 ∧ t.1 308 9 = m.1 200 53 ∧ m.1 200 53 ≤ 20000) ∧ t.1 308 8 = 1 ∧ m.1 200 54 = 1) ∧ t.1 308 10 = x ∧ (LIn t ∧ t.1 304 11 ≤ S + 64 * x ∧ (V ≤ t.1 306 9 ∧ t.1 306 9 ≤ V + x)) ∧ TFh t0 t ∧ DMs m0 m
/-- what is known when times gives up -/
def TMe (S V : Int) (t0 m0 u v : St) : Prop := (∃ n, EVr 1 u v n) ∧ (LIn u ∧ u.1 304 11 ≤ S + 64 * 2001 ∧ (V ≤ u.1 306 9 ∧ u.1 306 9 ≤ V + 2001) ∧ 0 ≤ v.1 200 53 ∧ v.1 200 53 ≤ 29000) ∧ TFh t0 u ∧ DMs m0 v
section
variable {N : Nat} {t0 m0 : St} {n : Nat} {S V : Int}
theorem l75_e {K19 : Int → St → Option (Int × St)} {q : Nat} {w y : Int} {t : St} (hw : inR w ∧ w ≠ 1) (hy : inR y) : f_X11_times_L75 N K19 (q + 1) w y t = K19 w t := by
  conv => lhs; unfold f_X11_times_L75
  rw [cmpI_ok (by omega), cmpI_ok (by omega), if_neg hw.2]
  split <;> rfl
theorem LIn.f {t u : St} (h : LIn t) (e1 : u.1 304 11 = t.1 304 11) (e2 : u.1 378 = t.1 378) : LIn u := by
  unfold LIn
  rw [e1, e2]
  exact h
theorem tm_go (hN : 100000 ≤ N) (hS : 0 ≤ S ∧ S + 64 * 2001 ≤ 1900000000) (hV : V + 2001 < 2000000000) (K19 : Int → St → Option (Int × St)) (K15 : Int → Int → St → Option (Int × St)) (hK1 : ∀ (w : Int) (t : St), (w = 2 ∨ w = 3 ∨ w = 4) → K19 w t = some (if w = 4 then -2 else -1, t)) (hK2 : ∀ (x w : Int) (m : St), (w = 3 ∨ w = 4) → K15 x w m = some (if w = 4 then -2 else -1, m)) :
    ∀ (j x q r : Nat) (y : Int) (t m : St) (k h a : Nat), j + x = 2000 → j + 3 ≤ q → j + 3 ≤ r → 0 ≤ y → y + j < 900000 → TMr n S V x t0 m0 t m → m.1 200 52 = 0 → RUNP 1 n t m k h a →
      ∃ u v : St, (∃ x' : Nat, x ≤ x' ∧ x' ≤ 2000 ∧ f_X11_times_L75 N K19 q 1 y t = K19 0 u ∧ (bdI (f_X12_goesToStep N m) fun v9 t8 => f_X12_dancesOn_L21 N K15 r x v9 t8) = K15 x' 0 v ∧ TMr n S V x' t0 m0 u v) ∨ (∃ ans : Int, (ans = -1 ∨ ans = -2) ∧ f_X11_times_L75 N K19 q 1 y t = some (ans, u) ∧ (bdI (f_X12_goesToStep N m) fun v9 t8 => f_X12_dancesOn_L21 N K15 r x v9 t8) = some (ans, v) ∧ TMe S V t0 m0 u v) := by
  intro j
  induction j with
  | zero =>
    intro x q r y t m k h a z1 z2 z3 z4 z5 hT h52 hP
    obtain ⟨q, rfl⟩ : ∃ q', q = q' + 2 := ⟨q - 2, by omega⟩
    obtain ⟨r, rfl⟩ : ∃ r', r = r' + 1 := ⟨r - 1, by omega⟩
    obtain ⟨⟨hE, hB, hn⟩, ⟨hL, h8, h54⟩, h10, ⟨hI, hI1, hI2⟩, hF1, hF2⟩ := hT
    have hRL : RLm 1 20000 t m := ⟨h52, ⟨hL.1, by show t.1 308 9 ≤ 20000; omega, by omega, hL.2.2⟩, Or.inr ⟨h8, h54, hL.2.1, hL.2.2⟩⟩
    obtain ⟨u, v, gU, gC, gV, gbd, h9⟩ := go_both hN hB hE hP hRL (by omega)
    have hEu : EVr 1 u v n := hE.rs (by decide) gU gC gV
    have hBu : BK0 u v := hB.s (by decide) gU gV
    have hH1 : ∀ (w : Int) (z : St), f_X8_goOn N 1 1 t = some (w, z) → f_X11_times_L75 N K19 (q + 2) 1 y t = f_X11_times_L75 N K19 (q + 1) w (y + 1) z := fun w z hz => by
      conv => lhs; unfold f_X11_times_L75
      rw [cmpI_ok (by omega), if_pos (by omega), cmpI_ok (by omega), if_pos rfl, hz, bdI_s]
    have hM1 : ∀ (w : Int) (z : St), f_X12_goesToStep N m = some (w, z) → (w = 0 ∨ w = 3 ∨ w = 4) → (bdI (f_X12_goesToStep N m) fun v9 t8 => f_X12_dancesOn_L21 N K15 (r + 1) x v9 t8) = K15 x w z := fun w z hz hw => by
      rw [hz, bdI_s]
      conv => lhs; unfold f_X12_dancesOn_L21
      rw [cmpI_ok (by omega), if_neg (by omega)]
    have u304 : u.1 304 = t.1 304 := gU.1 304 (by decide) (by decide) (by decide)
    have u378 : u.1 378 = t.1 378 := gU.1 378 (by decide) (by decide) (by decide)
    have u306 : u.1 306 = t.1 306 := gU.1 306 (by decide) (by decide) (by decide)
    have u10 : u.1 308 10 = x := by rw [gU.2.1 10 (by decide) (by decide) (by decide) (by decide)]; exact h10
    have u8 : u.1 308 8 = 1 := by rw [gU.2.1 8 (by decide) (by decide) (by decide) (by decide)]; exact h8
    have v54 : v.1 200 54 = 1 := by rw [gV.2.1 54 (by decide) (by decide) (by decide) (by decide) (by decide)]; exact h54
    have hIu : LIn u := hI.f (by rw [u304]) u378
    have eU : TMe S V t0 m0 u v := ⟨⟨n, hEu⟩, ⟨hIu, by rw [u304]; omega, by rw [u306]; omega, gbd.2.2.1, by have := gbd.2.2.2; omega⟩, hF1.tr (TFh.s gU), hF2.tr (DMs.s gV)⟩
    rcases h9 with ⟨e1, e2, e3⟩ | ⟨w, w1, e1, e2⟩ | ⟨M, k', h', a', b1, c, d1, e1, e2, e3, e4, e5, e6, e7, e8⟩
    · refine ⟨u, v, Or.inl ⟨x, Nat.le_refl x, by omega, ?_, hM1 0 v e2 (Or.inl rfl), ⟨hEu, hBu, hn⟩, ⟨?_, u8, v54⟩, u10, ⟨hIu, by rw [u304]; exact hI1, by rw [u306]; exact hI2⟩, hF1.tr (TFh.s gU), hF2.tr (DMs.s gV)⟩⟩
      · rw [hH1 0 u e1, l75_e (by omega) (by omega)]
      · obtain ⟨_, c4, c5⟩ := e3
        rcases c5 with ⟨c6, c7⟩ | ⟨c6, c7, c8, c9⟩
        · omega
        · exact ⟨c4.1, c8, c9⟩
    · refine ⟨u, v, Or.inr ⟨if w = 4 then -2 else -1, by split <;> omega, ?_, ?_, eU⟩⟩
      · rw [hH1 w u e1, l75_e (by omega) (by omega), hK1 w u (by omega)]
      · rw [hM1 w v e2 (by omega), hK2 x w v w1]
    · have hmL : ∀ F : Option (Int × St), f_X12_dancesOn_L21 N K15 (r + 1) x 1 v = F → (bdI (f_X12_goesToStep N m) fun v9 t8 => f_X12_dancesOn_L21 N K15 (r + 1) x v9 t8) = F := fun F hF => by rw [e2, bdI_s]; exact hF
      obtain ⟨e51, e52, e53, e54, e55, e56⟩ := e5
      -- one step too many
      refine ⟨pI u (307 + 1) 10 (u.1 (307 + 1) 10 + 1), v, Or.inr ⟨-2, Or.inr rfl, ?_, hmL _ ?_, ⟨n, ?_⟩, ⟨?_, ?_, ?_, gbd.2.2.1, by have := gbd.2.2.2; omega⟩, ?_, hF2.tr (DMs.s gV)⟩⟩
      · have hd : f_X8_dance N 1 1 u = some (4, pI u (307 + 1) 10 (u.1 (307 + 1) 10 + 1)) := by
          unfold f_X8_dance
          simp only [lt1_k, jn1_k]
          rw [pI_nf (show (8 : Nat) ≠ 10 by decide), pI_at, show u.1 (307 + 1) 8 = 1 from u8, cmpI_ok (by omega), if_neg (by decide), show u.1 (307 + 1) 10 = (x : Int) from u10, cmpI_ok (by omega), if_pos (by omega)]
        rw [hH1 4 _ (by rw [e1, hd, bdI_s]), l75_e (by omega) (by omega), hK1 4 _ (by omega), if_pos rfl]
      · conv => lhs; unfold f_X12_dancesOn_L21
        rw [cmpI_ok (by omega), if_pos rfl, cmpI_ok (by omega), if_pos (by omega)]
      · exact hEu.r5 (p := 1) (by decide) (fun z h1 _ _ => pI_ne h1) (fun _ _ _ _ _ _ => rfl) (gC.rI (by decide)) (fun _ _ => rfl) rfl rfl rfl
      · exact hIu.f (by rw [pI_ne (by decide)]) (pI_ne (by decide))
      · rw [pI_ne (by decide), u304]; omega
      · rw [pI_ne (by decide), u306]; omega
      · refine (hF1.tr (TFh.s gU)).tr ⟨fun z _ _ h3 _ _ _ => pI_ne h3, ⟨fun b _ => by rw [pI_ne (by decide)], fun b _ _ _ => by rw [pI_ne (by decide)], fun b _ _ => by rw [pI_ne (by decide)]⟩, fun _ _ _ _ _ _ _ _ => rfl⟩
  | succ j ih =>
    intro x q r y t m k h a z1 z2 z3 z4 z5 hT h52 hP
    obtain ⟨q, rfl⟩ : ∃ q', q = q' + 2 := ⟨q - 2, by omega⟩
    obtain ⟨r, rfl⟩ : ∃ r', r = r' + 1 := ⟨r - 1, by omega⟩
    obtain ⟨⟨hE, hB, hn⟩, ⟨hL, h8, h54⟩, h10, ⟨hI, hI1, hI2⟩, hF1, hF2⟩ := hT
    have hRL : RLm 1 20000 t m := ⟨h52, ⟨hL.1, by show t.1 308 9 ≤ 20000; omega, by omega, hL.2.2⟩, Or.inr ⟨h8, h54, hL.2.1, hL.2.2⟩⟩
    obtain ⟨u, v, gU, gC, gV, gbd, h9⟩ := go_both hN hB hE hP hRL (by omega)
    have hEu : EVr 1 u v n := hE.rs (by decide) gU gC gV
    have hBu : BK0 u v := hB.s (by decide) gU gV
    have hH1 : ∀ (w : Int) (z : St), f_X8_goOn N 1 1 t = some (w, z) → f_X11_times_L75 N K19 (q + 2) 1 y t = f_X11_times_L75 N K19 (q + 1) w (y + 1) z := fun w z hz => by
      conv => lhs; unfold f_X11_times_L75
      rw [cmpI_ok (by omega), if_pos (by omega), cmpI_ok (by omega), if_pos rfl, hz, bdI_s]
    have hM1 : ∀ (w : Int) (z : St), f_X12_goesToStep N m = some (w, z) → (w = 0 ∨ w = 3 ∨ w = 4) → (bdI (f_X12_goesToStep N m) fun v9 t8 => f_X12_dancesOn_L21 N K15 (r + 1) x v9 t8) = K15 x w z := fun w z hz hw => by
      rw [hz, bdI_s]
      conv => lhs; unfold f_X12_dancesOn_L21
      rw [cmpI_ok (by omega), if_neg (by omega)]
    have u304 : u.1 304 = t.1 304 := gU.1 304 (by decide) (by decide) (by decide)
    have u378 : u.1 378 = t.1 378 := gU.1 378 (by decide) (by decide) (by decide)
    have u306 : u.1 306 = t.1 306 := gU.1 306 (by decide) (by decide) (by decide)
    have u10 : u.1 308 10 = x := by rw [gU.2.1 10 (by decide) (by decide) (by decide) (by decide)]; exact h10
    have u8 : u.1 308 8 = 1 := by rw [gU.2.1 8 (by decide) (by decide) (by decide) (by decide)]; exact h8
    have v54 : v.1 200 54 = 1 := by rw [gV.2.1 54 (by decide) (by decide) (by decide) (by decide) (by decide)]; exact h54
    have hIu : LIn u := hI.f (by rw [u304]) u378
    have eU : TMe S V t0 m0 u v := ⟨⟨n, hEu⟩, ⟨hIu, by rw [u304]; omega, by rw [u306]; omega, gbd.2.2.1, by have := gbd.2.2.2; omega⟩, hF1.tr (TFh.s gU), hF2.tr (DMs.s gV)⟩
    rcases h9 with ⟨e1, e2, e3⟩ | ⟨w, w1, e1, e2⟩ | ⟨M, k', h', a', b1, c, d1, e1, e2, e3, e4, e5, e6, e7, e8⟩
    · refine ⟨u, v, Or.inl ⟨x, Nat.le_refl x, by omega, ?_, hM1 0 v e2 (Or.inl rfl), ⟨hEu, hBu, hn⟩, ⟨?_, u8, v54⟩, u10, ⟨hIu, by rw [u304]; exact hI1, by rw [u306]; exact hI2⟩, hF1.tr (TFh.s gU), hF2.tr (DMs.s gV)⟩⟩
      · rw [hH1 0 u e1, l75_e (by omega) (by omega)]
      · obtain ⟨_, c4, c5⟩ := e3
        rcases c5 with ⟨c6, c7⟩ | ⟨c6, c7, c8, c9⟩
        · omega
        · exact ⟨c4.1, c8, c9⟩
    · refine ⟨u, v, Or.inr ⟨if w = 4 then -2 else -1, by split <;> omega, ?_, ?_, eU⟩⟩
      · rw [hH1 w u e1, l75_e (by omega) (by omega), hK1 w u (by omega)]
      · rw [hM1 w v e2 (by omega), hK2 x w v w1]
    · have hmL : ∀ F : Option (Int × St), f_X12_dancesOn_L21 N K15 (r + 1) x 1 v = F → (bdI (f_X12_goesToStep N m) fun v9 t8 => f_X12_dancesOn_L21 N K15 (r + 1) x v9 t8) = F := fun F hF => by rw [e2, bdI_s]; exact hF
      obtain ⟨e51, e52, e53, e54, e55, e56⟩ := e5
      have hml2 : ∀ (w : Int) (z : St), f_X12_reckons N c (v.2 58 k') v = some (w, z) → f_X12_dancesOn_L21 N K15 (r + 1) x 1 v = cmpI w 0 (if w = 0 then (some ((-1), z)) else (bdV (f_X12_settles N z) fun t21 => bdI (f_X12_goesToStep N t21) fun v23 t22 => f_X12_dancesOn_L21 N K15 r ((x : Int) + 1) v23 t22)) := fun w z hz => by
        conv => lhs; unfold f_X12_dancesOn_L21
        simp only [lt1_k]
        rw [cmpI_ok (by omega), if_pos trivial, cmpI_ok (by omega), if_neg (by omega), e51, e54, ixI_ok (by omega), show (((k' + 1 : Nat) : Int) - 1).toNat = k' by omega, hz, bdI_s]
      obtain ⟨u2, w, g1, g2, g3, g4, g5, ⟨g6, g7⟩, h9⟩ := dn_both (N := N) (o := 1) (n := n) (t := t) (m := m) (u := u) (v := v) (R := 20000 + 2000) hN hB gU gV e7 hn e3 e4 ⟨e51, e52, e53, e54, e55, e56⟩ e6 e8 hI (by omega) (by show t.1 306 9 < 2000000000; omega) (by show 0 ≤ t.1 308 10 ∧ t.1 308 10 ≤ 1000000000; omega) (by show ¬ (u.1 308 8 = 1 ∧ 2000 < u.1 308 10 + 1); omega)
      have f1 := hF1.tr (TFh.d g4)
      have f2 := hF2.tr g5
      rcases h9 with ⟨rr, r1, r2, r3, r4, r5, r6, _⟩ | ⟨w1, r2, r3, r4, r5, r6, r7, r8, r9, r10, _⟩
      · refine ⟨u2, w, Or.inr ⟨-1, Or.inl rfl, ?_, hmL _ ?_, ⟨n, r5⟩, ⟨g2, by omega, by rw [show u2.1 306 9 = t.1 306 9 from r6]; omega, by rw [g7]; exact gbd.2.2.1, by rw [g7]; have := gbd.2.2.2; omega⟩, f1, f2⟩⟩
        · rw [hH1 2 _ (by rw [e1, r2, bdI_s]), l75_e (by omega) (by omega), hK1 2 _ (by omega), if_neg (by decide)]
        · rw [hml2 0 w r3, cmpI_ok (by omega), if_pos rfl]
      · have hB2 : BK0 u2 w := hB.d (TFh.d g4) g5
        have r9' := r9
        obtain ⟨q1, q2, q3⟩ := r9
        have u28 : u2.1 308 8 = 1 := by rw [show u2.1 308 8 = t.1 308 8 from g4.2.1.2.1 8 (by decide) (by decide) (by decide) (by decide) (by decide)]; exact h8
        have hT2 : TMr n S V (x + 1) t0 m0 u2 w := by
          refine ⟨⟨r5, hB2, hn⟩, ⟨?_, u28, ?_⟩, by rw [show u2.1 308 10 = u.1 308 10 + 1 from g6, u10]; rfl, ⟨g2, by omega, by rw [show u2.1 306 9 = t.1 306 9 + 1 from r6]; omega⟩, f1, f2⟩
          · rcases q3 with ⟨c6, c7⟩ | ⟨c6, c7, c8, c9⟩
            · exfalso
              omega
            · exact ⟨q2.1, c8, c9⟩
          · rcases q3 with ⟨c6, c7⟩ | ⟨c6, c7, c8, c9⟩
            · exfalso
              omega
            · exact c7
        have hih := ih (x + 1) (q + 1) r (y + 1) u2 w k' h' b1 (by omega) (by omega) (by omega) (by omega) (by omega) hT2 q1 r10
        have hHH : f_X11_times_L75 N K19 (q + 2) 1 y t = f_X11_times_L75 N K19 (q + 1) 1 (y + 1) u2 := hH1 1 u2 (by rw [e1, r2, bdI_s])
        have hMM : (bdI (f_X12_goesToStep N m) fun v9 t8 => f_X12_dancesOn_L21 N K15 (r + 1) x v9 t8) = (bdI (f_X12_goesToStep N w) fun v9 t8 => f_X12_dancesOn_L21 N K15 r ((x + 1 : Nat) : Int) v9 t8) := hmL _ (by
          rw [hml2 1 w1 r3, cmpI_ok (by omega), if_neg (by decide), r4, bdV_s]
          rfl)
        rw [hHH, hMM]
        obtain ⟨u3, v3, h9⟩ := hih
        refine ⟨u3, v3, ?_⟩
        rcases h9 with ⟨x', y1, y2⟩ | h9
        · exact Or.inl ⟨x', by omega, y2⟩
        · exact Or.inr h9
end
