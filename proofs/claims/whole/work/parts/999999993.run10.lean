/-! the run: to the next step, or to its end -/
/-- both sides at a step -/
def STEPr (o n : Nat) (t0 m0 t m : St) (k h a c : Nat) : Prop := ∃ (M : St) (f b d s q b1 d1 : Nat), RFt (XC t0 m0) m0 (t0.1 302 18) n (m.1 55 k) (m.2 58 k) M (f + 1) k a b c d s ∧ m.1 56 k = (q : Int) ∧ (q < 6000 ∧ q ≤ d) ∧ RTl (XC t0 m0) m0 (t0.1 302 18) n (t.2 (410 + o)) (m.1 55) (m.1 56) (m.1 57) (m.2 58) k h M b d s q ∧ (STp M (t0.1 363) (m0.1 31) a b1 c d1 ∧ LFc (t0.1 363) a ∧ WTk (m0.1 31 c) ∧ m0.1 31 d1 = 5059) ∧ SB M (XC t0 m0) f b1 b (d1 + 1) d
section
variable {N o n : Nat} {t0 m0 t m : St} {k h a : Nat} {K4 K5 : St → Option (Int × St)} {K2 : Int → St → Option (Int × St)} {K3 : St → Option (Int × St)}
theorem nx_any (hN : 20000 ≤ N) (hB : BK0 t0 m0) (hR : RUNR o n t0 m0 t m k h a) :
    NXs N o n t0 m0 K4 K5 K2 K3 t m k ∨ ((∀ (q : Nat) (x : Int), 0 ≤ x → x < 900000 → f_X8_goOn_L7 N o o K4 K5 (q + 1) x t = some (0, t)) ∧ (∀ r : Nat, f_X12_goesToStep_L0 N K2 K3 (r + 2) m = K3 (pI m 200 51 0))) ∨ (∃ c : Nat, (∀ (q : Nat) (x : Int), 0 ≤ x → x < 900000 → f_X8_goOn_L7 N o o K4 K5 (q + 1) x t = K4 t) ∧ (∀ r : Nat, f_X12_goesToStep_L0 N K2 K3 (r + 1) m = K2 c m) ∧ STEPr o n t0 m0 t m k h a c) := by
  obtain ⟨M, f, b, c, d, s, q, hF, hq, hq2, hT⟩ := hR.2.2.2.2
  have hF' := hF
  obtain ⟨r1, r2, r3, r4, r5, r6, r7, r12⟩ := hF
  have ho := hR.ho
  have hth := hR.th
  have htk := hR.1.2.tk
  have hBn := hB.2.1
  obtain ⟨⟨a0, c0, n1, n2, n3, n4, n4'⟩, _, n9, _⟩ := hBn
  have hhk := RTl.hk k hT
  have hk15 : k < 1500 := by omega
  have hl : t0.1 302 18 ≤ 10098 := by omega
  obtain ⟨q3, q6, q51, qw⟩ := hR.2.2.2.1
  -- the end of the block
  have hend : a = b → c = d → NXs N o n t0 m0 K4 K5 K2 K3 t m k ∨ ((∀ (q : Nat) (x : Int), 0 ≤ x → x < 900000 → f_X8_goOn_L7 N o o K4 K5 (q + 1) x t = some (0, t)) ∧ (∀ r : Nat, f_X12_goesToStep_L0 N K2 K3 (r + 2) m = K3 (pI m 200 51 0))) := fun ea ec => by
    subst ea ec
    cases k with
    | zero =>
      right
      obtain ⟨z1, z2, z3⟩ := hT
      have z3' : t0.1 363 a = 0 * 64 + 29 := by rw [show t0.1 363 a = 29 from z3]; rfl
      have hkv := h_kind (N := N) (x := a) (kd := 29) (vl := 0) (t := t) (by omega) (by omega) (by rw [hth.2.1]; omega) (by rw [hth.2.1]; exact hl) (by rw [hth.1]; exact z3')
      refine ⟨fun q x y1 y2 => ?_, fun r => ?_⟩
      · conv => lhs; unfold f_X8_goOn_L7
        simp only [lt1_k, jn1_k]
        rw [cmpI_ok (by omega), if_pos (by omega), q3, hkv.1, bdI_s, q3, hkv.2, bdI_s, cmpI_ok (by omega), if_pos (by decide), cmpI_ok (by omega), if_pos (show (29 : Int) = 29 from rfl), q6, cmpI_ok (by omega), if_pos (by omega)]
      · have hcl := m_c0 (N := N) (m := m) (k := 0) (c := c) (q := q) q51 (by omega) hq hq2.1 (by rw [htk.1]; exact Or.inl z2)
        rw [m_cls (k := 0) (c := c) (r := r + 1) q51 (by omega) r1 (by omega) (by rw [htk.1]; exact r3) hcl (Or.inl rfl), if_pos rfl]
        conv => lhs; unfold f_X12_goesToStep_L0
        rw [lt1_k, pI_at, cmpI_ok (by omega), if_neg (by decide)]
        rfl
    | succ k =>
      left
      rw [RTl_s] at hT
      rcases hT with ⟨x1, x2, h', a', x3, x4, x5, x6, x7⟩ | ⟨x1, r, h', a', a0, f2, x2, x3, x4, x5, ⟨x6, x7, x8⟩, x9, x10, x11, x12, x13⟩ | ⟨x1, r, h', a', a0, f2, b1, d1, x2, x3, x4, x5, ⟨x6, x7, x8⟩, ⟨y1, y2, y3, y4, y5, y6, y7⟩, x9, x10, x11, x12, x13⟩ | ⟨x1, a', x2, x3, x4, x5⟩ | ⟨x1, h', x2, x3, x4, x5⟩
      · exact nx_eA hN hl hR hk15 r1 r5.1 r3 r4 hq hq2.1 x1 x2 x3 (by omega) x4 x5 x6 x7
      · exact nx_eB hN hl hR hk15 r1 r5 r3 r4 hq hq2 r7 r12 x1 x2 x3 x4 (by omega) x5 x6 x7 x8 x9 x10 x11 x12 x13
      · exact nx_eC hN hl hR hk15 r1 r5 r3 r4 hq hq2 r7 r12 x1 x2 x3 x4 (by omega) x5 x6 x7 x8 y1 y2 y3 y4 y5 y6 y7 x9 x10 x11 x12 x13
      · exact nx_eD hN hl hR hk15 r1 r5.1 r3 r4 hq hq2.1 x1 x2 x3 x4 x5
      · exact nx_eE hN hl hR hk15 r1 r5.1 r3 r4 hq hq2.1 x1 x2 x3 (by omega) x4 x5
  cases f with
  | zero =>
    rcases hend r2.1 r2.2 with h9 | h9
    · exact Or.inl h9
    · exact Or.inr (Or.inl h9)
  | succ f =>
    rcases r2 with r2 | ⟨b1, d1, hS, h1⟩
    · rcases hend r2.1 r2.2 with h9 | h9
      · exact Or.inl h9
      · exact Or.inr (Or.inl h9)
    · have hne : m0.1 31 d1 ≠ 12 ∧ inR (m0.1 31 d1) := by
        cases f with
        | zero =>
          have e := hS.2
          rw [e]
          have : m0.1 31 d = 5125 := r3
          omega
        | succ f =>
          rcases hS with e | ⟨b2, d2, _, g⟩
          · rw [e.2]
            have : m0.1 31 d = 5125 := r3
            omega
          · have g9 := g.fst
            have e9 : (XC t0 m0).tk d1 = m0.1 31 d1 := rfl
            rw [e9] at g9
            omega
      have hle := SB.le _ _ _ _ _ hS
      rcases h1 with ⟨e1, z1, z2, z3, z4, z5⟩ | ⟨p, z1, z2, z3, z4, z5, z6, z7⟩ | ⟨r, e1, e2, z1, z2, z3, z4, z5, z6, z7, z8, z9, z10, z11⟩ | ⟨r, e1, e2, e3, e4, z1, z2, z3, z4, z5, z6, z7, z8, z9, z10, z11, z12, z13, z14⟩ | ⟨e1, e2, e3, z1, z2, z3, z4, z5, z6⟩ | ⟨e1, e2, e3, e4, e5, z1, z2, z3, z4, z5, z6, z7, z8, z9, z10⟩ | ⟨e1, e2, e3, e4, z1, z2, z3, z4, z5, z6, z7, z8⟩
      · right; right
        subst z1
        have hlt := z2.lt
        refine ⟨c, fun q x y1 y2 => ?_, fun r => m_stp q51 (by omega) r1 (by omega) (by rw [htk.1]; exact z4), M, f, b, d, s, q, b1, e1, hF', hq, hq2, hT, ⟨z2, z3, z4, z5⟩, hS⟩
        obtain ⟨kd, vl, l1, l2, l3, l4, l5⟩ := z3
        have hkv := h_kind (N := N) (x := a) (kd := kd) (vl := vl) (t := t) (by omega) ⟨l3, l4⟩ (by rw [hth.2.1]; omega) (by rw [hth.2.1]; exact hl) (by rw [hth.1]; exact l5)
        conv => lhs; unfold f_X8_goOn_L7
        simp only [lt1_k, jn1_k]
        rw [cmpI_ok (by omega), if_pos (by omega), q3, hkv.1, bdI_s, q3, hkv.2, bdI_s, cmpI_ok (by omega), if_neg (by omega)]
      · subst z2 z3
        exact Or.inl (nx_do hN hB hR hF' hq hq2 hT hS z1 z4 z5 z6 z7)
      · subst z3 z4
        exact Or.inl (nx_rep hN hB hR hF' hq hq2 hT hS ⟨z1, z2⟩ z5 z6 z7 z8 z9 z10 z11)
      · subst z3 z4
        exact Or.inl (nx_unt hN hB hR hF' hq hq2 hT hS ⟨z1, z2⟩ z5 z6 z7 z8 z9 z10 z11 z12 z13 z14)
      · subst z1
        exact Or.inl (nx_if hN hB hR hF' hq hq2 hT hS z2 z3 z4 z5 z6 hne)
      · subst z1
        exact Or.inl (nx_ife hN hB hR hF' hq hq2 hT hS z2 z3 z4 z5 z6 z7 z8 z9 z10)
      · subst z1 z2
        exact Or.inl (nx_for hN hB hR hF' hq hq2 hT hS z3 z4 z5 z6 z7 z8)
theorem run_lp (hN : 20000 ≤ N) (hB : BK0 t0 m0) : ∀ (y k h a q r : Nat) (x : Int) (t m : St), k + 2 * (2001 - (m.1 200 52).toNat) ≤ y → 6 * y + 8 ≤ q → y + 3 ≤ r → 0 ≤ x → x + 6 * y < 900000 → RUNR o n t0 m0 t m k h a →
    ∃ u v : St, GHr o t0 u ∧ CIk u ∧ GMr m0 v ∧ (0 ≤ u.1 (307 + o) 7 ∧ u.1 (307 + o) 7 ≤ 9000 ∧ 0 ≤ v.1 200 52 ∧ v.1 200 52 ≤ 9000) ∧ ((f_X8_goOn_L7 N o o K4 K5 q x t = some (0, u) ∧ f_X12_goesToStep_L0 N K2 K3 r m = K3 v ∧ RNc o u v) ∨ (∃ w : Int, (w = 3 ∨ w = 4) ∧ f_X8_goOn_L7 N o o K4 K5 q x t = some (w, u) ∧ f_X12_goesToStep_L0 N K2 K3 r m = some (w, v)) ∨ (∃ k' h' a' c : Nat, f_X8_goOn_L7 N o o K4 K5 q x t = K4 u ∧ f_X12_goesToStep_L0 N K2 K3 r m = K2 c v ∧ RUNR o n t0 m0 u v k' h' a' ∧ STEPr o n t0 m0 u v k' h' a' c)) := by
  intro y
  induction y with
  | zero =>
    intro k h a q r x t m e1 e2 e3 e4 e5 hR
    have := hR.2.2.1.1
    omega
  | succ y ih =>
    intro k h a q r x t m e1 e2 e3 e4 e5 hR
    have hCI := hR.2.1.2.2.2.2.2.1
    rcases nx_any (K4 := K4) (K5 := K5) (K2 := K2) (K3 := K3) hN hB hR with h9 | h9 | ⟨c, h9, h10, h11⟩
    · rcases h9 with ⟨w, u, v, f1, f2, f3, f4, f5, f6, f7⟩ | ⟨j, u, v, k', h', a', f1, f2, f3, f4, f5⟩
      · obtain ⟨q, rfl⟩ : ∃ q', q = q' + 6 := ⟨q - 6, by omega⟩
        obtain ⟨r, rfl⟩ : ∃ r', r = r' + 1 := ⟨r - 1, by omega⟩
        exact ⟨u, v, hR.1.1.tr f4, f5, hR.1.2.tr f6, f7, Or.inr (Or.inl ⟨w, f1, f2 q x e4 (by omega), f3 r⟩)⟩
      · obtain ⟨q, rfl⟩ : ∃ q', q = q' + j := ⟨q - j, by omega⟩
        obtain ⟨r, rfl⟩ : ∃ r', r = r' + 1 := ⟨r - 1, by omega⟩
        obtain ⟨u2, v2, g1, g2, g3, g4⟩ := ih k' h' a' q r (x + j) u v (by omega) (by omega) (by omega) (by omega) (by omega) f4
        rw [f2 q x e4 (by omega), f3 r]
        exact ⟨u2, v2, g1, g2, g3, g4⟩
    · obtain ⟨q, rfl⟩ : ∃ q', q = q' + 1 := ⟨q - 1, by omega⟩
      obtain ⟨r, rfl⟩ : ∃ r', r = r' + 2 := ⟨r - 2, by omega⟩
      exact ⟨t, pI m 200 51 0, hR.1.1, hCI, hR.1.2.tr GMr.p51, by rw [pI_nf (by decide)]; have := hR.2.2.1.1; omega, Or.inl ⟨h9.1 q x e4 (by omega), h9.2 r, hR.2.2.1.m51⟩⟩
    · obtain ⟨q, rfl⟩ : ∃ q', q = q' + 1 := ⟨q - 1, by omega⟩
      obtain ⟨r, rfl⟩ : ∃ r', r = r' + 1 := ⟨r - 1, by omega⟩
      exact ⟨t, m, hR.1.1, hCI, hR.1.2, by have := hR.2.2.1.1; omega, Or.inr (Or.inr ⟨k, h, a, c, h9 q x e4 (by omega), h10 r, hR, h11⟩)⟩
end
