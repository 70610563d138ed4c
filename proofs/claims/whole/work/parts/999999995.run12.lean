/-! a step of the run is danced, or cannot be -/
/-- the book has only grown: code and tokens, the model, the code's length -/
def BGr (X : CTE) (m0 : St) (L : Int) (X2 : CTE) (m1 : St) (L2 : Int) : Prop := (∀ x : Nat, (x : Int) < L → X2.cd x = X.cd x) ∧ (∀ x : Nat, (x : Int) < m0.1 200 33 → X2.tk x = X.tk x ∧ X2.te x = X.te x) ∧ L ≤ L2 ∧ bkG m0 m1 ∧ m0.1 200 15 ≤ m1.1 200 15 ∧ m0.1 200 16 ≤ m1.1 200 16 ∧ (∀ p : Nat, (p : Int) < m0.1 200 16 → m1.1 29 p = m0.1 29 p) ∧ m0.1 200 33 ≤ m1.1 200 33
section
variable {X X2 : CTE} {m0 m1 : St} {L L2 : Int} {n : Nat} {S : Nat → Int64} {P Q Z : Nat → Int} {W : Nat → Int64}
theorem RFt.lw {pk : Int} {wk : Int64} {M : St} {f k a b c d s : Nat} (h : RFt X m0 L n pk wk M f k a b c d s) (g : BGr X m0 L X2 m1 L2) : RFt X2 m1 L2 n pk wk M f k a b c d s := by
  obtain ⟨h1, h2, h3, h4, h5, h6, ⟨h7, h8, p, h9, h10, h11⟩, h12⟩ := h
  obtain ⟨g1, g2, g3, g4, g5, g6, g7, g8⟩ := g
  refine ⟨h1, SB.cg _ _ _ _ _ h2 ⟨fun x z1 z2 => g1 x (by omega), fun x z1 z2 => (g2 x (by omega)).1, fun x z1 z2 => (g2 x (by omega)).2⟩, by rw [(g2 d h5.2).1]; exact h3, by omega, by omega, h6, ⟨h7.tr g4, by omega, p, h9, by omega, by rw [g7 p h10]; exact h11⟩, h12⟩
theorem RTl.lw (g : BGr X m0 L X2 m1 L2) : ∀ (k : Nat) {h : Nat} {M : St} {b d s q : Nat}, RTl X m0 L n S P Q Z W k h M b d s q → (b : Int) < L → (d : Int) < m0.1 200 33 → q ≤ d → RTl X2 m1 L2 n S P Q Z W k h M b d s q := by
  have g' := g
  obtain ⟨g1, g2, g3, g4, g5, g6, g7, g8⟩ := g
  intro k
  induction k with
  | zero =>
    intro h M b d s q hh hb hd hq
    exact ⟨hh.1, by rw [(g2 q (by omega)).1]; exact hh.2.1, by rw [g1 b hb]; exact hh.2.2⟩
  | succ k ih =>
    intro h M b d s q hh hb hd hq
    have rf : ∀ {h' a' : Nat}, RF X m0 L n S P Q Z W k h' a' → RF X2 m1 L2 n S P Q Z W k h' a' := fun {h' a'} ⟨M', f', b', c', d', s', q', k1, k2, k3, k4⟩ => ⟨M', f', b', c', d', s', q', k1.lw g', k2, k3, ih k4 k1.2.2.2.1 k1.2.2.2.2.1.2 k3.2⟩
    rw [RTl_s] at hh ⊢
    rw [(g2 q (by omega)).1, g1 b hb]
    rcases hh with ⟨h1, h2, h', a', h3, h4, h5, h6, h7⟩ | ⟨h1, r, h', a', a0, f2, h2, h3, h4, h5, ⟨h6, h6', h6''⟩, h7, h8, h9, h10, h11⟩ | ⟨h1, r, h', a', a0, f2, b1, d1, h2, h3, h4, h5, ⟨h6, h6', h6''⟩, ⟨y1, y2, y3, y4, y5, y6, y7⟩, h8, h9, h10, h11, h12⟩ | ⟨h1, a', h2, h3, h4, h5⟩ | ⟨h1, h', h2, h3, h4, h5⟩
    · exact Or.inl ⟨h1, h2, h', a', h3, h4, h5, h6, rf h7⟩
    · refine Or.inr (Or.inl ⟨h1, r, h', a', a0, f2, h2, h3, h4, h5, ⟨h6, h6', by rw [g1 (a0 + 1) (by omega)]; exact h6''⟩, SB.cg _ _ _ _ _ h7 ⟨fun x z1 z2 => g1 x (by omega), fun x z1 z2 => (g2 x (by omega)).1, fun x z1 z2 => (g2 x (by omega)).2⟩, h8, h9, h10, rf h11⟩)
    · have hlk := y1.lt
      refine Or.inr (Or.inr (Or.inl ⟨h1, r, h', a', a0, f2, b1, d1, h2, h3, h4, h5, ⟨h6, h6', by rw [g1 (a0 + 1) (by omega)]; exact h6''⟩, ⟨y1.cg ⟨fun x z1 z2 => g1 x (by omega), fun x z1 z2 => (g2 x (by omega)).1, fun x z1 z2 => (g2 x (by omega)).2⟩, y2, by rw [g1 b1 (by omega)]; exact y3, by rw [(g2 d1 (by omega)).1]; exact y4, by rw [(g2 (d1 + 1) (by omega)).1]; exact y5, by rw [(g2 (d1 + 2) (by omega)).1]; exact y6, y7⟩, SB.cg _ _ _ _ _ h8 ⟨fun x z1 z2 => g1 x (by omega), fun x z1 z2 => (g2 x (by omega)).1, fun x z1 z2 => (g2 x (by omega)).2⟩, h9, h10, h11, rf h12⟩))
    · exact Or.inr (Or.inr (Or.inr (Or.inl ⟨h1, a', h2, h3, h4, rf h5⟩)))
    · exact Or.inr (Or.inr (Or.inr (Or.inr ⟨h1, h', h2, h3, h4, rf h5⟩)))
theorem RF.lw {k h a : Nat} (hh : RF X m0 L n S P Q Z W k h a) (g : BGr X m0 L X2 m1 L2) : RF X2 m1 L2 n S P Q Z W k h a := by
  obtain ⟨M', f', b', c', d', s', q', k1, k2, k3, k4⟩ := hh
  exact ⟨M', f', b', c', d', s', q', k1.lw g, k2, k3, RTl.lw g k k4 k1.2.2.2.1 k1.2.2.2.2.1.2 k3.2⟩
end
section
variable {N o n : Nat} {t m u v : St}
theorem BK0.fg (hB : BK0 t m) : FGr t m := by
  obtain ⟨_, ⟨_, ⟨n5, n6, n7, n8⟩, n9, _⟩, b1, b2, _⟩ := hB
  refine ⟨⟨n6, n9.2.2.1, n9.2.2.2.1⟩, fun F hF => ?_⟩
  obtain ⟨f, k, h1, h2, h3, h4, h5, h6, h7⟩ := b2 F hF
  refine ⟨f, h1, h2, h3, h4, h5, fun j hj => ?_⟩
  rw [h6] at hj
  exact h7 j (by omega)
/-- the book lies apart from the run -/
theorem BK0.s (hB : BK0 t m) (ho : o < 2) (g : GHs o t u) (g2 : GMs m v) : BK0 u v := by
  have f : ∀ a, a ≠ 307 → a ≠ 308 → a ≠ 311 → (a < 380 ∨ 383 < a) → u.1 a = t.1 a := fun a h1 h2 h3 h4 => g.1 a (by omega) h3 h4
  have e : ∀ b, b < 51 → v.1 200 b = m.1 200 b := fun b hb => g2.2.1 b (by omega) (by omega) (by omega) (by omega) (by omega)
  exact hB.mv (fun x y hx _ => by rw [f x (by omega) (by omega) (by omega) (by omega)]) (fun x y hx _ => by rw [g2.1 x (by omega) (by omega) (by omega) (by omega) (by omega) (by omega) (by omega) (by omega)]) (fun s x hs _ => by rw [g.2.2.2 (340 + s) (by omega) (by omega) (by omega) (by omega) (by omega)]) ⟨by rw [f 312 (by omega) (by omega) (by omega) (by omega)], by rw [f 313 (by omega) (by omega) (by omega) (by omega)], by rw [f 314 (by omega) (by omega) (by omega) (by omega)]⟩ ⟨by rw [f 302 (by omega) (by omega) (by omega) (by omega)], by rw [f 302 (by omega) (by omega) (by omega) (by omega)], by rw [f 302 (by omega) (by omega) (by omega) (by omega)]⟩ ⟨e 13 (by omega), e 14 (by omega), e 15 (by omega), e 16 (by omega), e 17 (by omega), e 33 (by omega)⟩
theorem rk9_le {R : Nat → Int} {v : Int} : ∀ k, rk9 R v k ≤ k := by
  intro k
  induction k with
  | zero => exact Nat.le_refl 0
  | succ k ih => rw [rk9_s]; split <;> omega
theorem rk9_lt {R : Nat → Int} {d : Nat} : ∀ k, d < k → rk9 R (R d) k < k := by
  intro k
  induction k with
  | zero => intro h; omega
  | succ k ih =>
    intro h
    rw [rk9_s]
    by_cases hd : d = k
    · subst hd
      rw [if_neg (by omega)]
      have := rk9_le (R := R) (v := R d) d
      omega
    · have := ih (by omega)
      split <;> omega
/-- a danced floor has no more columns and rows than dancers -/
theorem DNC.sm {u w m : St} {n d : Nat} (h : DNC u w n) (hF : fmF m n) (hc : cdZ (m.1 38 d) (m.1 39 d) (m.1 40 d) = u.1 376 d) (hd : d < n) : m.1 38 d ≤ 4 * ((n : Int) - 1) ∧ m.1 39 d ≤ 4 * ((n : Int) - 1) := by
  have h1 := h.1 d hd
  have h2 := h.2.2.1 d hd
  have h3 := hF.2.2.1 d hd
  rw [h1.1] at hc
  obtain ⟨e1, e2, _⟩ := (cdZ_inj h3.1 h3.2.1 h3.2.2 h2.1 h2.2.1 h2.2.2).mp hc
  have l1 := rk9_lt (R := w.1 76) (d := d) n hd
  have l2 := rk9_lt (R := w.1 77) (d := d) n hd
  have e1' : m.1 38 d = 4 * (rk9 (w.1 76) (w.1 76 d) n : Int) := e1
  have e2' : m.1 39 d = 4 * (rk9 (w.1 77) (w.1 77 d) n : Int) := e2
  constructor <;> omega
/-- what a danced step of the run leaves -/
def DHs (o : Nat) (t u : St) : Prop := (∀ x, x ≠ 304 → x ≠ 305 + o → x ≠ 307 + o → x ≠ 311 → (x < 372 ∨ 383 < x) → (x < 390 + 10 * o ∨ 397 + 10 * o < x ∨ x = 394 + 10 * o) → u.1 x = t.1 x) ∧ ((∀ b, b < 11 → u.1 304 b = t.1 304 b) ∧ (∀ y, y ≠ 3 → y ≠ 6 → y ≠ 7 → y ≠ 9 → y ≠ 10 → u.1 (307 + o) y = t.1 (307 + o) y) ∧ (∀ b, b ≠ 3 → b ≠ 4 → b ≠ 9 → u.1 311 b = t.1 311 b) ∧ (∀ b, b ≠ 8 → b ≠ 9 → u.1 (305 + o) b = t.1 (305 + o) b)) ∧ (∀ x, x ≠ 384 → x ≠ 370 → x ≠ 371 → x ≠ 311 → x ≠ 307 + o → x ≠ 410 + o → x ≠ 396 + 10 * o → u.2 x = t.2 x)
def DMs (m v : St) : Prop := (∀ x, (x < 38 ∨ 41 < x) → (x < 55 ∨ 57 < x) → (x < 74 ∨ 81 < x) → x ≠ 86 → x ≠ 87 → x ≠ 200 → v.1 x = m.1 x) ∧ (∀ b, b ≠ 42 → b ≠ 43 → (b < 51 ∨ 53 < b) → (b < 70 ∨ 75 < b) → (b < 82 ∨ 85 < b) → b ≠ 88 → b ≠ 114 → b ≠ 115 → v.1 200 b = m.1 200 b) ∧ (∀ x, x ≠ 58 → x ≠ 73 → v.2 x = m.2 x)
theorem DHs.of1 {p : Int} (ho : o < 2) (g : GHs o t u) {w : St} (e : hk5 (pI u (307 + o) 10 p) w) : DHs o t w := by
  refine ⟨fun x h1 h2 h3 h4 h5 h6 => by rw [e.1 x h1 h4 h5, pI_ne h3, g.1 x h3 h4 (by omega)], ⟨fun b hb => by rw [e.2.1 b hb, pI_ne (by omega), g.1 304 (by omega) (by omega) (by omega)], fun y h1 h2 h3 h4 h5 => by rw [e.1 (307 + o) (by omega) (by omega) (by omega), pI_nf h5, g.2.1 y h1 h2 h3 h4], fun b h1 h2 h3 => by rw [e.2.2.1 b h1 h2 h3, pI_ne (by omega), g.2.2.1 b h1 h2 h3], fun b _ _ => by rw [e.1 (305 + o) (by omega) (by omega) (by omega), pI_ne (by omega), g.1 (305 + o) (by omega) (by omega) (by omega)]⟩, fun x h1 h2 h3 h4 h5 h6 h7 => by rw [e.2.2.2 x h1 h2 h3 h4, pI_L, g.2.2.2 x h1 h2 h4 h5 h6]⟩
theorem DMs.of1 (g : GMs m v) {w : St} (e : mk5 v w) : DMs m w := by
  refine ⟨fun x h1 h2 h3 h4 h5 h6 => by rw [e.1 x (by omega) (by omega) (by omega) (by omega) (by omega) (by omega) (by omega) h4 h5 h6, g.1 x (by omega) (by omega) h4 h5 h6 (by omega) (by omega) (by omega)], fun b h1 h2 h3 h4 h5 h6 h7 h8 => by rw [e.2.1 b (by omega) (by omega) (by omega) (by omega) (by omega) (by omega) (by omega) (by omega) h6 h7, g.2.1 b h3 h5 h6 h7 h8], fun x h1 h2 => by rw [e.2.2 x h2, g.2.2 x h1]⟩
/-- the step at which the run stands -/
theorem dn_both {M : St} {k' h' a' b1 c d1 : Nat} {R : Int} (hN : 100000 ≤ N) (hB : BK0 t m) (gU : GHs o t u) (gV : GMs m v) (hE : EVr o u v n) (hn : 1 ≤ n) (hM : bkG M m ∧ M.1 200 15 ≤ m.1 200 15 ∧ ∀ e, e < 64 → bq (v.2 58 k') e = true → e < n) (hS : STp M (t.1 363) (m.1 31) a' b1 c d1 ∧ m.1 31 d1 = 5059 ∧ (b1 : Int) ≤ t.1 302 18 ∧ d1 < 6000) (hV : v.1 200 115 = c ∧ u.1 (307 + o) 3 = a' ∧ u.1 (307 + o) 6 = h' ∧ v.1 200 51 = ((k' + 1 : Nat) : Int) ∧ u.2 (307 + o) 4 = v.2 58 k' ∧ k' < 1500) (hL : RLm o R u v) (hRF : RF (XC t m) m (t.1 302 18) n (u.2 (410 + o)) (v.1 55) (v.1 56) (v.1 57) (v.2 58) k' h' b1) (hI : LIn t) (hI2 : t.1 304 11 ≤ 1900000000) (hv9 : t.1 (305 + o) 9 < 2000000000) (h10 : 0 ≤ t.1 (307 + o) 10 ∧ t.1 (307 + o) 10 ≤ 1000000000) (hno : ¬ (u.1 (307 + o) 8 = 1 ∧ 2000 < u.1 (307 + o) 10 + 1)) :
    ∃ (u2 w : St), CIk u2 ∧ LIn u2 ∧ u2.1 304 11 ≤ t.1 304 11 + 64 ∧ DHs o t u2 ∧ DMs m w ∧ (u2.1 (307 + o) 10 = u.1 (307 + o) 10 + 1 ∧ w.1 200 53 = v.1 200 53) ∧
      ((∃ r : Int, (r = 1 ∨ r = 2 ∨ r = 3 ∨ r = 4 ∨ r = 5) ∧ f_X8_dance N o o u = some (2, u2) ∧ f_X12_reckons N c (v.2 58 k') v = some (0, w) ∧ blm u2 w r ∧ EVr o u2 w n ∧ u2.1 (305 + o) 9 = t.1 (305 + o) 9 ∧ (∀ d, u2.1 (393 + 10 * o) d = t.1 (393 + 10 * o) d ∧ w.1 41 d = m.1 41 d) ∧ (w.1 200 42 = m.1 200 42 ∧ w.1 200 43 = m.1 200 43) ∧ w.1 38 = m.1 38 ∧ w.1 39 = m.1 39 ∧ w.1 40 = m.1 40) ∨
       (∃ w1 : St, f_X8_dance N o o u = some (1, u2) ∧ f_X12_reckons N c (v.2 58 k') v = some (1, w1) ∧ f_X12_settles N w1 = some w ∧ EVr o u2 w n ∧ u2.1 (305 + o) 9 = t.1 (305 + o) 9 + 1 ∧ (∀ d, d < n → u2.1 (393 + 10 * o) d - t.1 (393 + 10 * o) d = w.1 41 d - m.1 41 d) ∧ (w.1 200 42 = m.1 200 42 + u2.1 304 13 ∧ w.1 200 43 = m.1 200 43 + 1 ∧ 0 ≤ u2.1 304 13 ∧ u2.1 304 13 ≤ 64) ∧ RLm o R u2 w ∧ RUNP o n u2 w k' h' b1 ∧ (∀ d, d < n → -8 ≤ w.1 41 d - m.1 41 d ∧ w.1 41 d - m.1 41 d ≤ 8) ∧ (∀ d, d < n → w.1 38 d ≤ 4 * ((n : Int) - 1) ∧ w.1 39 d ≤ 4 * ((n : Int) - 1)))) := by
  have ho := hE.1
  obtain ⟨hV1, hV2, hV3, hV4, hV5, hV6⟩ := hV
  have hBs := hB.s ho gU gV
  have hBn := hB.2.1.2.2.1
  have hBl := hB.2.1.1
  have h15 : v.1 200 15 = m.1 200 15 := gV.2.1 15 (by omega) (by omega) (by omega) (by omega) (by omega)
  generalize hu1 : pI u (307 + o) 10 (u.1 (307 + o) 10 + 1) = u1
  have u1o : ∀ x, x ≠ 307 + o → u1.1 x = u.1 x := fun x hx => by rw [← hu1, pI_ne hx]
  have u1y : ∀ y, y ≠ 10 → u1.1 (307 + o) y = u.1 (307 + o) y := fun y hy => by rw [← hu1, pI_nf hy]
  have u1L : u1.2 = u.2 := by rw [← hu1]; rfl
  have u1z : u1.1 (307 + o) 10 = u.1 (307 + o) 10 + 1 := by rw [← hu1, pI_at]
  have uo : ∀ x, x ≠ 307 + o → x ≠ 311 → (x < 380 ∨ 383 < x) → u1.1 x = t.1 x := fun x z1 z2 z3 => by rw [u1o x z1, gU.1 x z1 z2 z3]
  have hCI1 : CIk u1 := hE.2.2.2.2.2.1.rn (fun x h1 h2 => u1o x (by omega)) (by rw [u1L])
  have hE1 : EVr o u1 v n := hE.r4 (p := o) ho (fun x h1 _ _ => u1o x h1) (fun x _ _ _ _ _ => by rw [u1L]) hCI1 GMr.rf.s
  have hB1 : BK0 u1 v := hBs.mv (fun x y hx _ => by rw [u1o x (by omega)]) (fun _ _ _ _ => rfl) (fun s x hs _ => by rw [u1L]) ⟨by rw [u1o 312 (by omega)], by rw [u1o 313 (by omega)], by rw [u1o 314 (by omega)]⟩ ⟨by rw [u1o 302 (by omega)], by rw [u1o 302 (by omega)], by rw [u1o 302 (by omega)]⟩ ⟨rfl, rfl, rfl, rfl, rfl, rfl⟩
  obtain ⟨hS1, hS2, hS3, hS4⟩ := hS
  have e31 : v.1 31 = m.1 31 := gV.1 31 (by decide) (by decide) (by decide) (by decide) (by decide) (by decide) (by decide) (by decide)
  have e18 : v.1 18 = m.1 18 := gV.1 18 (by decide) (by decide) (by decide) (by decide) (by decide) (by decide) (by decide) (by decide)
  have e14 : v.1 200 14 = m.1 200 14 := gV.2.1 14 (by omega) (by omega) (by omega) (by omega) (by omega)
  have l302 : u1.1 302 18 = t.1 302 18 := by rw [uo 302 (by omega) (by omega) (by omega)]
  have hl : t.1 302 18 ≤ 10098 := by
    obtain ⟨a9, c9, z1, z2, z3, z4, z5⟩ := hBl
    omega
  have hX : CXr M N o n u1 v (v.2 58 k') := ⟨by omega, hE1, hM.2.2, by rw [l302]; exact hl, hM.1.tr ⟨by rw [e14]; exact Int.le_refl _, fun f _ => by rw [e18]⟩⟩
  have hI1 : LIn u1 := by
    unfold LIn
    rw [uo 304 (by omega) (by omega) (by omega), uo 378 (by omega) (by omega) (by omega)]
    exact hI
  obtain ⟨x, w, q1, q2, q3, q4, q5, q6⟩ := at_both (N := N) (o := o) (n := n) (t := u1) (m := v) (s := v.2 58 k') hS1 (by omega) hX hB1.fg (by omega) hn ⟨fun y z1 z2 => by rw [uo 363 (by omega) (by omega) (by omega)], by rw [l302]; exact hS3⟩ ⟨fun y z1 z2 => by rw [e31], by omega⟩ (by omega) (by rw [e31, hS2]; omega) (by rw [e31, hS2]; omega) hI1 (by rw [uo 304 (by omega) (by omega) (by omega)]; exact hI2)
  have q5' : x.1 304 11 ≤ t.1 304 11 + 64 := by rw [← uo 304 (by omega) (by omega) (by omega)]; exact q5
  have hdn : ∀ F : Option (Int × St), (bdI (f_X1_attempt N o (a' : Int) (v.2 58 k') u1) fun v9 t8 => cmpI v9 0 (if v9 = 0 then (lt1 (t8.1 304 12) fun v10 => lt1 (pI t8 (307 + o) 3 v10) fun t11 => bdV (f_X1_settle N o t11) fun t12 => some (1, t12)) else (some (2, t8)))) = F → f_X8_dance N o o u = F := fun F hF => by
    rw [← hF]
    unfold f_X8_dance
    simp only [lt1_k, jn1_k]
    rw [hu1, u1y 8 (by decide), u1y 3 (by decide), hV2, u1L, hV5, u1z]
    obtain ⟨_, _, l6⟩ := hL
    rcases l6 with ⟨_, z1, _⟩ | ⟨z1, _⟩
    · rw [z1, cmpI_ok (by omega), if_pos rfl]
    · have u10 : u.1 (307 + o) 10 = t.1 (307 + o) 10 := gU.2.1 10 (by omega) (by omega) (by omega) (by omega)
      rw [z1, cmpI_ok (by omega), if_neg (by decide), cmpI_ok (by omega), if_neg (by omega)]
  have DH : DHs o t x := by
    refine DHs.of1 (p := u.1 (307 + o) 10 + 1) ho gU ?_
    rw [hu1]; exact q1
  have DM : DMs m w := DMs.of1 gV q3
  have x307 : x.1 (307 + o) = u1.1 (307 + o) := q1.1 (307 + o) (by omega) (by omega) (by omega)
  have x10 : x.1 (307 + o) 10 = u.1 (307 + o) 10 + 1 := by rw [x307]; exact u1z
  have hEx : EVr o x w n := hE1.k5 q1 q2 q3
  have w41 : ∀ d, w.1 41 d = m.1 41 d := fun d => by rw [q3.1 41 (by decide) (by decide) (by decide) (by decide) (by decide) (by decide) (by decide) (by decide) (by decide) (by decide), gV.1 41 (by decide) (by decide) (by decide) (by decide) (by decide) (by decide) (by decide) (by decide)]
  have x393 : ∀ d, x.1 (393 + 10 * o) d = t.1 (393 + 10 * o) d := fun d => by rw [q1.1 (393 + 10 * o) (by omega) (by omega) (by omega), uo (393 + 10 * o) (by omega) (by omega) (by omega)]
  have x305 : x.1 (305 + o) 9 = t.1 (305 + o) 9 := by rw [q1.1 (305 + o) (by omega) (by omega) (by omega), uo (305 + o) (by omega) (by omega) (by omega)]
  have w42 : w.1 200 42 = m.1 200 42 ∧ w.1 200 43 = m.1 200 43 := ⟨by rw [q3.2.1 42 (by decide) (by decide) (by decide) (by decide) (by decide) (by decide) (by decide) (by decide) (by decide) (by decide), gV.2.1 42 (by omega) (by omega) (by omega) (by omega) (by omega)], by rw [q3.2.1 43 (by decide) (by decide) (by decide) (by decide) (by decide) (by decide) (by decide) (by decide) (by decide) (by decide), gV.2.1 43 (by omega) (by omega) (by omega) (by omega) (by omega)]⟩
  have wo : ∀ y, y < 55 → w.1 y = m.1 y := fun y hy => by rw [q3.1 y (by omega) (by omega) (by omega) (by omega) (by omega) (by omega) (by omega) (by omega) (by omega) (by omega), gV.1 y (by omega) (by omega) (by omega) (by omega) (by omega) (by omega) (by omega) (by omega)]
  rcases q6 with ⟨r, r1, r2, r3, r4⟩ | ⟨r2, r3, r4, r5, p, r6, r7, r8, r9, r10⟩
  · refine ⟨x, w, q2, q4, q5', DH, DM, ⟨x10, q3.2.1 53 (by decide) (by decide) (by decide) (by decide) (by decide) (by decide) (by decide) (by decide) (by decide) (by decide)⟩, Or.inl ⟨r, r1, hdn _ ?_, r3, r4, hEx, x305, fun d => ⟨x393 d, w41 d⟩, w42, wo 38 (by decide), wo 39 (by decide), wo 40 (by decide)⟩⟩
    rw [r2, bdI_s, cmpI_ok (by omega), if_neg (by omega)]
  · generalize hx2 : pI x (307 + o) 3 (b1 : Int) = x2
    have x2o : ∀ y, y ≠ 307 + o → x2.1 y = x.1 y := fun y hy => by rw [← hx2, pI_ne hy]
    have x2y : ∀ y, y ≠ 3 → x2.1 (307 + o) y = x.1 (307 + o) y := fun y hy => by rw [← hx2, pI_nf hy]
    have x2L : x2.2 = x.2 := by rw [← hx2]; rfl
    have hCI2 : CIk x2 := q2.rn (fun y h1 h2 => x2o y (by omega)) (by rw [x2L])
    have hE2 : EVr o x2 w n := hEx.r4 (p := o) ho (fun y h1 _ _ => x2o y h1) (fun y _ _ _ _ _ => by rw [x2L]) hCI2 GMr.rf.s
    have hD2 : DNC x2 w n := by
      unfold DNC
      rw [x2o 376 (by omega), x2o 375 (by omega)]
      exact r4
    have h24 : ∀ F : Nat, (F : Int) < m.1 200 15 → 0 ≤ w.1 24 F ∧ w.1 24 F ≤ 64 := fun F hF => by
      rw [wo 24 (by decide)]
      obtain ⟨f, k, _, _, _, z4, _⟩ := hB.2.2.2.1 F hF
      omega
    obtain ⟨t', m', s1, s2, s3, s4, s5, s6, s7, s8, s9, s10, s11, s12, s13, s14, s15⟩ := settle_both (N := N) (o := o) (n := n) (p := p) (u := x2) (w := w) (Fg := m.1 200 15) hE2 hD2 r7 r8 (fun j hj => by have := r10 j hj; omega) (by omega) h24 (by rw [x2o (305 + o) (by omega), x305]; exact hv9) (by omega)
    have to : ∀ y, y ≠ 305 + o → (y < 390 + 10 * o ∨ 397 + 10 * o < y) → t'.1 y = x2.1 y := fun y z1 z2 => s12 y z1 (by omega) (by omega) (by omega) (by omega) (by omega) (by omega)
    have t304 : t'.1 304 = x.1 304 := by rw [to 304 (by omega) (by omega), x2o 304 (by omega)]
    have t307 : ∀ y, y ≠ 3 → t'.1 (307 + o) y = u1.1 (307 + o) y := fun y hy => by rw [to (307 + o) (by omega) (by omega), x2y y hy, x307]
    have t3073 : t'.1 (307 + o) 3 = (b1 : Int) := by rw [to (307 + o) (by omega) (by omega), ← hx2, pI_at]
    have tL : ∀ y, y ≠ 384 → y ≠ 370 → y ≠ 371 → y ≠ 311 → y ≠ 396 + 10 * o → t'.2 y = u.2 y := fun y z1 z2 z3 z4 z5 => by rw [s14 y z5, x2L, q1.2.2.2 y z1 z2 z3 z4, u1L]
    have m'o : ∀ y, y < 38 ∨ (41 < y ∧ y < 55) → m'.1 y = m.1 y := fun y hy => by rw [s6 y (by omega) (by omega), wo y (by omega)]
    have m'v : ∀ y, 55 ≤ y → y ≤ 57 → m'.1 y = v.1 y := fun y z1 z2 => by rw [s6 y (by omega) (by omega), q3.1 y (by omega) (by omega) (by omega) (by omega) (by omega) (by omega) (by omega) (by omega) (by omega) (by omega)]
    have m'2 : m'.2 58 = v.2 58 := by rw [s10, q3.2.2 58 (by decide)]
    have m'f : ∀ b, b ≠ 42 → b ≠ 43 → (b < 70 ∨ 75 < b) → (b < 82 ∨ 85 < b) → b ≠ 88 → b ≠ 114 → m'.1 200 b = v.1 200 b := fun b z1 z2 z3 z4 z5 z6 => by rw [s7 b z1 z2, q3.2.1 b (by omega) (by omega) (by omega) (by omega) (by omega) (by omega) (by omega) (by omega) z5 z6]
    refine ⟨t', m', s3.2.2.2.2.2.1, ?_, by rw [t304]; exact q5', ?_, ?_, ⟨by rw [t307 10 (by decide)]; exact u1z, m'f 53 (by omega) (by omega) (by omega) (by omega) (by omega) (by omega)⟩, Or.inr ⟨w, hdn _ ?_, r3, s2, s3, by rw [s11, x2o (305 + o) (by omega), x305], fun d hd => ?_, ⟨?_, ?_, ?_, ?_⟩, ?_, ⟨⟨t3073, ?_, ?_, ?_⟩, ?_⟩, fun d hd => ?_, fun d hd => ?_⟩⟩
    · unfold LIn
      rw [t304, to 378 (by omega) (by omega), x2o 378 (by omega)]
      exact q4
    · refine ⟨fun y h1 h2 h3 h4 h5 h6 => ?_, ⟨fun b hb => by rw [t304]; exact DH.2.1.1 b hb, fun y h1 h2 h3 h4 h5 => by rw [t307 y h1, u1y y h5, gU.2.1 y h1 h2 h3 h4], fun b h1 h2 h3 => by rw [to 311 (by omega) (by omega), x2o 311 (by omega)]; exact DH.2.1.2.2.1 b h1 h2 h3, fun b h1 h2 => by rw [s13 b h1 h2, x2o (305 + o) (by omega)]; exact DH.2.1.2.2.2 b h1 h2⟩, fun y h1 h2 h3 h4 h5 h6 h7 => by rw [tL y h1 h2 h3 h4 h7, gU.2.2.2 y h1 h2 h4 h5 h6]⟩
      rcases h6 with h6 | h6 | h6
      · rw [to y h2 (Or.inl h6), x2o y h3]; exact DH.1 y h1 h2 h3 h4 h5 (Or.inl h6)
      · rw [to y h2 (Or.inr h6), x2o y h3]; exact DH.1 y h1 h2 h3 h4 h5 (Or.inr (Or.inl h6))
      · rw [s12 y h2 (by omega) (by omega) (by omega) (by omega) (by omega) (by omega), x2o y h3]; exact DH.1 y h1 h2 h3 h4 h5 (Or.inr (Or.inr h6))
    · refine ⟨fun y h1 h2 h3 h4 h5 h6 => by rw [s6 y h1 h6]; exact DM.1 y h1 h2 h3 h4 h5 h6, fun b h1 h2 h3 h4 h5 h6 h7 h8 => by rw [s7 b h1 h2]; exact DM.2.1 b h1 h2 h3 h4 h5 h6 h7 h8, fun y h1 h2 => by rw [s10]; exact DM.2.2 y h1 h2⟩
    · rw [r2, bdI_s, cmpI_ok (by omega), if_pos rfl, lt1_k, r5, lt1_k, hx2, s1, bdV_s]
    · have z1 := s4 d hd
      have z2 := (r4.1 d hd).2.1
      rw [z1.1, z1.2, z2, x2o (393 + 10 * o) (by omega), x393 d, x2o 375 (by omega), w41 d]
      omega
    · rw [s8, w42.1, t304, r9]
    · rw [s9, w42.2]
    · rw [t304, r9]; exact s15.1
    · rw [t304, r9]; exact s15.2
    · obtain ⟨l1, l2, l3⟩ := hL
      unfold RLm
      rw [m'f 52 (by omega) (by omega) (by omega) (by omega) (by omega) (by omega), m'f 53 (by omega) (by omega) (by omega) (by omega) (by omega) (by omega), m'f 54 (by omega) (by omega) (by omega) (by omega) (by omega) (by omega), t307 9 (by decide), u1y 9 (by decide), t307 8 (by decide), u1y 8 (by decide)]
      exact ⟨l1, l2, l3⟩
    · rw [t307 6 (by decide), u1y 6 (by decide)]; exact hV3
    · rw [m'f 51 (by omega) (by omega) (by omega) (by omega) (by omega) (by omega)]; exact hV4
    · rw [tL (307 + o) (by omega) (by omega) (by omega) (by omega) (by omega), m'2]; exact hV5
    · have e363 : t'.1 363 = t.1 363 := by rw [to 363 (by omega) (by omega), x2o 363 (by omega), q1.1 363 (by omega) (by omega) (by omega), uo 363 (by omega) (by omega) (by omega)]
      have e302 : t'.1 302 = t.1 302 := by rw [to 302 (by omega) (by omega), x2o 302 (by omega), q1.1 302 (by omega) (by omega) (by omega), uo 302 (by omega) (by omega) (by omega)]
      have eX : XC t' m' = XC t m := by
        show (t'.1 363, m'.1 31, m'.1 32) = (t.1 363, m.1 31, m.1 32)
        rw [e363, m'o 31 (by omega), m'o 32 (by omega)]
      have f14 : ∀ b, b < 42 → m'.1 200 b = m.1 200 b := fun b hb => by rw [m'f b (by omega) (by omega) (by omega) (by omega) (by omega) (by omega), gV.2.1 b (by omega) (by omega) (by omega) (by omega) (by omega)]
      rw [eX, e302, tL (410 + o) (by omega) (by omega) (by omega) (by omega) (by omega), m'v 55 (by omega) (by omega), m'v 56 (by omega) (by omega), m'v 57 (by omega) (by omega), m'2]
      exact hRF.lw ⟨fun _ _ => rfl, fun _ _ => ⟨rfl, rfl⟩, Int.le_refl _, ⟨by rw [f14 14 (by omega)]; exact Int.le_refl _, fun f _ => by rw [m'o 18 (by omega)]⟩, by rw [f14 15 (by omega)]; exact Int.le_refl _, by rw [f14 16 (by omega)]; exact Int.le_refl _, fun p _ => by rw [m'o 29 (by omega)], by rw [f14 33 (by omega)]; exact Int.le_refl _⟩
    · have z1 := s4 d hd
      have z2 := (r4.1 d hd).2.1
      have z3 := (r4.1 d hd).2.2.1
      rw [z1.2, z2, w41 d]
      omega
    · exact hD2.sm s3.2.1.1 (s5 d hd) hd
end
