/-! the run: its stack on both sides -/
/-- the block at the top: what is left of it -/
def RFt (X : CTE) (m0 : St) (L : Int) (n : Nat) (pk : Int) (wk : Int64) (M : St) (f k a b c d s : Nat) : Prop := pk = (c : Int) ∧ SB M X f a b c d ∧ X.tk d = 5125 ∧ (b : Int) < L ∧ (d < 6000 ∧ (d : Int) < m0.1 200 33) ∧ 4 * (k + 1) + (d - c) + s ≤ 6000 ∧ (bkG M m0 ∧ M.1 200 15 ≤ m0.1 200 15 ∧ ∃ p : Nat, M.1 200 16 = p ∧ (p : Int) < m0.1 200 16 ∧ m0.1 29 p = ((s + 2 : Nat) : Int)) ∧ (∀ e, e < 64 → bq wk e = true → e < n)
/-- what is under it; b: where its code ends, d: its closing token, s: where its part begins, q: its statement -/
def RTl (X : CTE) (m0 : St) (L : Int) (n : Nat) (S : Nat → Int64) (P Q Z : Nat → Int) (W : Nat → Int64) : Nat → Nat → St → Nat → Nat → Nat → Nat → Prop
  | 0, h, _, b, _, _, q => h = 0 ∧ X.tk q = 5123 ∧ X.cd b = 29
  | k + 1, h, M, b, d, s, q =>
    (X.tk q = 5123 ∧ X.cd b = 29 ∧ ∃ h' a' : Nat, h = h' + 1 ∧ S h' = Int64.ofInt (a' : Int) ∧ a' < 20000 ∧ W (k + 1) = W k ∧ ∃ (M' : St) (f' b' c' d' s' q' : Nat), RFt X m0 L n (P k) (W k) M' f' k a' b' c' d' s' ∧ Q k = (q' : Int) ∧ (q' < 6000 ∧ q' ≤ d') ∧ RTl X m0 L n S P Q Z W k h' M' b' d' s' q') ∨
    (X.tk q = 8 ∧ ∃ r h' a' a0 f2 : Nat, Z (k + 1) = ((r + 1 : Nat) : Int) ∧ r < 64 ∧ h = h' + 1 ∧ S h' = Int64.ofInt (r : Int) ∧ (a0 + 1 < b ∧ X.cd b = ((a0 + 1 : Nat) : Int) * 64 + 26 ∧ X.cd (a0 + 1) = (a' : Int) * 64 + 21) ∧ SB M X f2 (a0 + 2) b (q + 3) d ∧ 4 * (k + 2) + (d - (q + 3)) + s ≤ 6000 ∧ a' < 20000 ∧ W (k + 1) = W k ∧ ∃ (M' : St) (f' b' c' d' s' q' : Nat), RFt X m0 L n (P k) (W k) M' f' k a' b' c' d' s' ∧ Q k = (q' : Int) ∧ (q' < 6000 ∧ q' ≤ d') ∧ RTl X m0 L n S P Q Z W k h' M' b' d' s' q') ∨
    (X.tk q = 9 ∧ ∃ r h' a' a0 f2 b1 d1 : Nat, Z (k + 1) = ((r + 1 : Nat) : Int) ∧ r < 64 ∧ h = h' + 1 ∧ S h' = Int64.ofInt (r : Int) ∧ (a0 + 1 < b ∧ X.cd b = ((a0 + 1 : Nat) : Int) * 64 + 26 ∧ X.cd (a0 + 1) = (a' : Int) * 64 + 22) ∧ (LKc false M X (a0 + 2) b1 (q + 1) d1 ∧ b1 < b ∧ X.cd b1 = (a' : Int) * 64 + 24 ∧ X.tk d1 = 10 ∧ (∃ nn : Int, 1 ≤ nn ∧ nn ≤ 64 ∧ X.tk (d1 + 1) = 1000 + nn) ∧ X.tk (d1 + 2) = 5123 ∧ d1 + 3 ≤ d) ∧ SB M X f2 (b1 + 1) b (d1 + 3) d ∧ 4 * (k + 2) + (d - (d1 + 3)) + s ≤ 6000 ∧ a' < 20000 ∧ W (k + 1) = W k ∧ ∃ (M' : St) (f' b' c' d' s' q' : Nat), RFt X m0 L n (P k) (W k) M' f' k a' b' c' d' s' ∧ Q k = (q' : Int) ∧ (q' < 6000 ∧ q' ≤ d') ∧ RTl X m0 L n S P Q Z W k h' M' b' d' s' q') ∨
    (X.tk q = 11 ∧ ∃ a' : Nat, (X.cd b = (a' : Int) * 64 + 26 ∨ a' = b) ∧ a' < 20000 ∧ W (k + 1) = W k ∧ ∃ (M' : St) (f' b' c' d' s' q' : Nat), RFt X m0 L n (P k) (W k) M' f' k a' b' c' d' s' ∧ Q k = (q' : Int) ∧ (q' < 6000 ∧ q' ≤ d') ∧ RTl X m0 L n S P Q Z W k h M' b' d' s' q') ∨
    (X.tk q = 13 ∧ ∃ h' : Nat, X.cd b = 28 ∧ h = h' + 1 ∧ S h' = W k ∧ ∃ (M' : St) (f' b' c' d' s' q' : Nat), RFt X m0 L n (P k) (W k) M' f' k (b + 1) b' c' d' s' ∧ Q k = (q' : Int) ∧ (q' < 6000 ∧ q' ≤ d') ∧ RTl X m0 L n S P Q Z W k h' M' b' d' s' q')
def RF (X : CTE) (m0 : St) (L : Int) (n : Nat) (S : Nat → Int64) (P Q Z : Nat → Int) (W : Nat → Int64) (k h a : Nat) : Prop := ∃ (M : St) (f b c d s q : Nat), RFt X m0 L n (P k) (W k) M f k a b c d s ∧ Q k = (q : Int) ∧ (q < 6000 ∧ q ≤ d) ∧ RTl X m0 L n S P Q Z W k h M b d s q
section
variable {X : CTE} {m0 : St} {L : Int} {n : Nat} {S S2 : Nat → Int64} {P Q Z P2 Q2 Z2 : Nat → Int} {W W2 : Nat → Int64}
theorem RTl_s {k h : Nat} {M : St} {b d s q : Nat} : RTl X m0 L n S P Q Z W (k + 1) h M b d s q = (
    (X.tk q = 5123 ∧ X.cd b = 29 ∧ ∃ h' a' : Nat, h = h' + 1 ∧ S h' = Int64.ofInt (a' : Int) ∧ a' < 20000 ∧ W (k + 1) = W k ∧ RF X m0 L n S P Q Z W k h' a') ∨
    (X.tk q = 8 ∧ ∃ r h' a' a0 f2 : Nat, Z (k + 1) = ((r + 1 : Nat) : Int) ∧ r < 64 ∧ h = h' + 1 ∧ S h' = Int64.ofInt (r : Int) ∧ (a0 + 1 < b ∧ X.cd b = ((a0 + 1 : Nat) : Int) * 64 + 26 ∧ X.cd (a0 + 1) = (a' : Int) * 64 + 21) ∧ SB M X f2 (a0 + 2) b (q + 3) d ∧ 4 * (k + 2) + (d - (q + 3)) + s ≤ 6000 ∧ a' < 20000 ∧ W (k + 1) = W k ∧ RF X m0 L n S P Q Z W k h' a') ∨
    (X.tk q = 9 ∧ ∃ r h' a' a0 f2 b1 d1 : Nat, Z (k + 1) = ((r + 1 : Nat) : Int) ∧ r < 64 ∧ h = h' + 1 ∧ S h' = Int64.ofInt (r : Int) ∧ (a0 + 1 < b ∧ X.cd b = ((a0 + 1 : Nat) : Int) * 64 + 26 ∧ X.cd (a0 + 1) = (a' : Int) * 64 + 22) ∧ (LKc false M X (a0 + 2) b1 (q + 1) d1 ∧ b1 < b ∧ X.cd b1 = (a' : Int) * 64 + 24 ∧ X.tk d1 = 10 ∧ (∃ nn : Int, 1 ≤ nn ∧ nn ≤ 64 ∧ X.tk (d1 + 1) = 1000 + nn) ∧ X.tk (d1 + 2) = 5123 ∧ d1 + 3 ≤ d) ∧ SB M X f2 (b1 + 1) b (d1 + 3) d ∧ 4 * (k + 2) + (d - (d1 + 3)) + s ≤ 6000 ∧ a' < 20000 ∧ W (k + 1) = W k ∧ RF X m0 L n S P Q Z W k h' a') ∨
    (X.tk q = 11 ∧ ∃ a' : Nat, (X.cd b = (a' : Int) * 64 + 26 ∨ a' = b) ∧ a' < 20000 ∧ W (k + 1) = W k ∧ RF X m0 L n S P Q Z W k h a') ∨
    (X.tk q = 13 ∧ ∃ h' : Nat, X.cd b = 28 ∧ h = h' + 1 ∧ S h' = W k ∧ RF X m0 L n S P Q Z W k h' (b + 1))) := rfl
theorem RTl.hk : ∀ (k : Nat) {h : Nat} {M : St} {b d s q : Nat}, RTl X m0 L n S P Q Z W k h M b d s q → h ≤ k := by
  intro k
  induction k with
  | zero => intro h M b d s q g; rw [g.1]; exact Nat.le_refl 0
  | succ k ih =>
    intro h M b d s q g
    rw [RTl_s] at g
    rcases g with ⟨_, _, h', a', e, _, _, _, _, _, _, _, _, _, _, _, _, _, g⟩ | ⟨_, r, h', a', a0, f2, _, _, e, _, _, _, _, _, _, _, _, _, _, _, _, _, _, _, _, g⟩ | ⟨_, r, h', a', a0, f2, b1, d1, _, _, e, _, _, _, _, _, _, _, _, _, _, _, _, _, _, _, _, _, g⟩ | ⟨_, a', _, _, _, _, _, _, _, _, _, _, _, _, _, g⟩ | ⟨_, h', _, e, _, _, _, _, _, _, _, _, _, _, _, g⟩
    · have := ih g; omega
    · have := ih g; omega
    · have := ih g; omega
    · have := ih g; omega
    · have := ih g; omega
theorem RTl.cg : ∀ (k : Nat) {h : Nat} {M : St} {b d s q : Nat}, RTl X m0 L n S P Q Z W k h M b d s q → (∀ j, j < h → S2 j = S j) → (∀ j, j < k → P2 j = P j) → (∀ j, j < k → Q2 j = Q j) → (∀ j, j ≤ k → Z2 j = Z j) → (∀ j, j ≤ k → W2 j = W j) → RTl X m0 L n S2 P2 Q2 Z2 W2 k h M b d s q := by
  intro k
  induction k with
  | zero => intro h M b d s q g _ _ _ _ _; exact g
  | succ k ih =>
    intro h M b d s q g e1 e2 e3 e4 e5
    have rf : ∀ {h' a' : Nat}, h' ≤ h → RF X m0 L n S P Q Z W k h' a' → RF X m0 L n S2 P2 Q2 Z2 W2 k h' a' := fun {h' a'} hh ⟨M', f', b', c', d', s', q', k1, k2, k3, k4⟩ => ⟨M', f', b', c', d', s', q', by rw [e2 k (by omega), e5 k (by omega)]; exact k1, by rw [e3 k (by omega)]; exact k2, k3, ih k4 (fun j hj => e1 j (by omega)) (fun j hj => e2 j (by omega)) (fun j hj => e3 j (by omega)) (fun j hj => e4 j (by omega)) (fun j hj => e5 j (by omega))⟩
    rw [RTl_s] at g ⊢
    rw [e4 (k + 1) (by omega), e5 (k + 1) (by omega), e5 k (by omega)]
    rcases g with ⟨h1, h2, h', a', h3, h4, h5, h6, h7⟩ | ⟨h1, r, h', a', a0, f2, h2, h3, h4, h5, h6, h7, h8, h9, h10, h11⟩ | ⟨h1, r, h', a', a0, f2, b1, d1, h2, h3, h4, h5, h6, h7, h8, h9, h10, h11, h12⟩ | ⟨h1, a', h2, h3, h4, h5⟩ | ⟨h1, h', h2, h3, h4, h5⟩
    · exact Or.inl ⟨h1, h2, h', a', h3, by rw [e1 h' (by omega)]; exact h4, h5, h6, rf (by omega) h7⟩
    · exact Or.inr (Or.inl ⟨h1, r, h', a', a0, f2, h2, h3, h4, by rw [e1 h' (by omega)]; exact h5, h6, h7, h8, h9, h10, rf (by omega) h11⟩)
    · exact Or.inr (Or.inr (Or.inl ⟨h1, r, h', a', a0, f2, b1, d1, h2, h3, h4, by rw [e1 h' (by omega)]; exact h5, h6, h7, h8, h9, h10, h11, rf (by omega) h12⟩))
    · exact Or.inr (Or.inr (Or.inr (Or.inl ⟨h1, a', h2, h3, h4, rf (by omega) h5⟩)))
    · exact Or.inr (Or.inr (Or.inr (Or.inr ⟨h1, h', h2, h3, by rw [e1 h' (by omega)]; exact h4, rf (by omega) h5⟩)))
theorem RF.cg {k h a : Nat} (g : RF X m0 L n S P Q Z W k h a) (e1 : ∀ j, j < h → S2 j = S j) (e2 : ∀ j, j ≤ k → P2 j = P j) (e3 : ∀ j, j ≤ k → Q2 j = Q j) (e4 : ∀ j, j ≤ k → Z2 j = Z j) (e5 : ∀ j, j ≤ k → W2 j = W j) : RF X m0 L n S2 P2 Q2 Z2 W2 k h a := by
  obtain ⟨M', f', b', c', d', s', q', k1, k2, k3, k4⟩ := g
  exact ⟨M', f', b', c', d', s', q', by rw [e2 k (Nat.le_refl k), e5 k (Nat.le_refl k)]; exact k1, by rw [e3 k (Nat.le_refl k)]; exact k2, k3, k4.cg k e1 (fun j hj => e2 j (by omega)) (fun j hj => e3 j (by omega)) e4 e5⟩
end
/-- both sides in a part: k frames under the top, h on the hall's stack, a: the hall's place -/
def RUNR (o n : Nat) (t0 m0 t m : St) (k h a : Nat) : Prop := (GHr o t0 t ∧ GMr m0 m) ∧ EVr o t m n ∧ RNc o t m ∧ (t.1 (307 + o) 3 = a ∧ t.1 (307 + o) 6 = h ∧ m.1 200 51 = ((k + 1 : Nat) : Int) ∧ t.2 (307 + o) 4 = m.2 58 k) ∧ RF (XC t0 m0) m0 (t0.1 302 18) n (t.2 (410 + o)) (m.1 55) (m.1 56) (m.1 57) (m.2 58) k h a
section
variable {N o n : Nat} {t0 m0 t m u v : St} {X : CTE} {M : St}
/-- a look: a WHO or a condition is found out -/
theorem ev_who {a b c d : Nat} {kd vl : Int} {s : Int64} (h : LKc true M X a b c d) (hX : CXr M N o n t m s) (hC : agC t X.cd a (b + 1)) (hT : agT m X.tk c (d + 1)) (hr : m.1 200 114 = c) (hd : X.tk d = 5123) (hb : X.cd b = vl * 64 + kd) (hk : 16 < kd ∧ kd < 64) (hv : 0 ≤ vl ∧ vl < 33554432) :
    ∃ (w : Int64) (u v : St), f_X1_evaluate N o ((a : Int) + 1) s t = some ((b : Int), u) ∧ f_X12_readWho N s m = some (w, v) ∧ hfr t u ∧ CIk u ∧ u.2 370 0 = w ∧ mf4 m v ∧ v.1 200 114 = d ∧ ∀ e, e < 64 → bq w e = true → e < n := by
  obtain ⟨H, hH, h1, h2, h3⟩ := h
  rw [if_pos rfl] at h1
  have hl := h1.1
  have hN := hX.1
  have hlen := hX.2.2.2.1
  have hcl := hC.2
  have htd : m.1 31 d = 5123 := by rw [hT.1 d (by have := h1.2.1; omega) (by omega)]; exact hd
  obtain ⟨w, u, v, g1, g2, g3, g4, g5⟩ := ww_end h1 (D := 100) (t := t) (m := m) (s := s) (top := -1) hX (hC.sub (by omega) (by omega)) (hT.sub (by omega) (by omega)) hr (by rw [htd]; omega) (by rw [htd]; omega) (by rw [htd]; omega) (by omega) (by omega) (by omega)
  have hu302 : u.1 302 18 = t.1 302 18 := by rw [g1.2.1.1 302 (by decide) (by decide) (by decide) (by decide) (by decide)]
  have hu363 : u.1 363 = t.1 363 := g1.2.1.1 363 (by decide) (by decide) (by decide) (by decide) (by decide)
  refine ⟨w, u, v, ?_, g2, g1.2.1, g1.2.2.1, g1.2.2.2.1, g3, g4, g5⟩
  unfold f_X1_evaluate
  obtain ⟨q9, hq9⟩ : ∃ q9, N = (q9 + 1) + (b - (a + 1)) := ⟨N - 1 - (b - (a + 1)), by omega⟩
  rw [show (a : Int) + 1 = ((a + 1 : Nat) : Int) by omega]
  conv => lhs; arg 5; rw [hq9]
  rw [g1.1, show ((-1 : Int) + 1) = 0 by omega]
  exact ev_stop (vl := vl) (kd := kd) hk hv (by rw [hu302]; omega) (by rw [hu302]; exact hlen) (by rw [hu363, hC.1 b (by omega) (by omega)]; exact hb)
theorem ev_cond {a b c d : Nat} {kd vl : Int} {s : Int64} (h : LKc false M X a b c d) (hX : CXr M N o n t m s) (hC : agC t X.cd a (b + 1)) (hT : agT m X.tk c (d + 1)) (hr : m.1 200 114 = c) (hg : hGd o m) (hd : X.tk d = 5123 ∨ X.tk d = 10) (hb : X.cd b = vl * 64 + kd) (hk : 16 < kd ∧ kd < 64) (hv : 0 ≤ vl ∧ vl < 33554432) :
    ∃ (w : Int) (u v : St), f_X1_evaluate N o ((a : Int) + 1) s t = some ((b : Int), u) ∧ f_X12_readCondition N s m = some (w, v) ∧ (w = 0 ∨ w = 1) ∧ hfr t u ∧ CIk u ∧ u.2 370 0 = tv w ∧ mf4 m v ∧ v.1 200 114 = d := by
  obtain ⟨H, hH, h1, h2, h3⟩ := h
  rw [if_neg (by decide)] at h1
  obtain ⟨fl, h1⟩ := h1
  have hl := h1.1
  have hN := hX.1
  have hlen := hX.2.2.2.1
  have hcl := hC.2
  have htd : m.1 31 d = 5123 ∨ m.1 31 d = 10 := by rw [hT.1 d (by have := h1.2.1; omega) (by omega)]; exact hd
  obtain ⟨w, u, v, g1, g2, g3, g4, g5⟩ := cw_end h1 (D := 100) (t := t) (m := m) (s := s) (top := -1) hX (hC.sub (by omega) (by omega)) (hT.sub (by omega) (by omega)) hr hg (by omega) (by omega) (by omega) (by omega) (by omega) (by omega) hH
  have hu302 : u.1 302 18 = t.1 302 18 := by rw [g1.2.1.1 302 (by decide) (by decide) (by decide) (by decide) (by decide)]
  have hu363 : u.1 363 = t.1 363 := g1.2.1.1 363 (by decide) (by decide) (by decide) (by decide) (by decide)
  refine ⟨w, u, v, ?_, g2, g3, g1.2.1, g1.2.2.1, g1.2.2.2.1, g4, g5⟩
  unfold f_X1_evaluate
  obtain ⟨q9, hq9⟩ : ∃ q9, N = (q9 + 1) + (b - (a + 1)) := ⟨N - 1 - (b - (a + 1)), by omega⟩
  rw [show (a : Int) + 1 = ((a + 1 : Nat) : Int) by omega]
  conv => lhs; arg 5; rw [hq9]
  rw [g1.1, show ((-1 : Int) + 1) = 0 by omega]
  exact ev_stop (vl := vl) (kd := kd) hk hv (by rw [hu302]; omega) (by rw [hu302]; exact hlen) (by rw [hu363, hC.1 b (by omega) (by omega)]; exact hb)
end
