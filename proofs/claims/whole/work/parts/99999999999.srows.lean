/-! rows of steps: level by level, backwards -/
def WGh (t u : St) : Prop := (∀ x, x ≠ 435 → u.1 x = t.1 x) ∧ ∀ x, x ≠ 434 → u.2 x = t.2 x
def WGm (m v : St) : Prop := (∀ x, x ≠ 96 → v.1 x = m.1 x) ∧ ∀ x, x ≠ 95 → v.2 x = m.2 x
theorem WGh.rf {t : St} : WGh t t := ⟨fun _ _ => rfl, fun _ _ => rfl⟩
theorem WGm.rf {t : St} : WGm t t := ⟨fun _ _ => rfl, fun _ _ => rfl⟩
theorem WGh.tr {t u v : St} (h : WGh t u) (g : WGh u v) : WGh t v := ⟨fun x hx => (g.1 x hx).trans (h.1 x hx), fun x hx => (g.2 x hx).trans (h.2 x hx)⟩
theorem WGm.tr {t u v : St} (h : WGm t u) (g : WGm u v) : WGm t v := ⟨fun x hx => (g.1 x hx).trans (h.1 x hx), fun x hx => (g.2 x hx).trans (h.2 x hx)⟩
theorem WFh.g {s : Nat} {t u : St} (h : WFh s t u) : WGh t u := ⟨h.1, h.2.2.1⟩
theorem WFm.g {s : Nat} {t u : St} (h : WFm s t u) : WGm t u := ⟨h.1, h.2.2.1⟩
/-- the level k is counted up to state s, all levels behind it wholly -/
def IVk (L S w a k s : Nat) (B : Nat → Nat) (t m : St) : Prop := FXl L S w B t m ∧ (m.1 200 98 = w ∧ m.1 200 90 = S) ∧ (∀ j z, j ≤ L → B j ≤ z → z < B (j + 1) → WY1 L t m j z) ∧ (∀ z, z < B k ∨ (s ≤ z ∧ z < B (k + 1)) → m.2 95 z = 0 ∧ m.1 96 z = 0) ∧ (∀ z, (B k ≤ z ∧ z < s) ∨ (B (k + 1) ≤ z ∧ z < B L) → SMz w m z) ∧ B L ≤ a ∧ a < S ∧ m.2 95 a = 1
section
variable {N L S w a k : Nat} {B : Nat → Nat}
set_option maxHeartbeats 1000000 in
theorem rk_lp (hN : 100000 ≤ N) (hk : k < L) : ∀ (j s : Nat) (t m : St), s + j = B (k + 1) → B k ≤ s → IVk L S w a k s B t m →
    ∃ u v : St, WGh t u ∧ WGm m v ∧ IVk L S w a k (B (k + 1)) B u v ∧ ∀ (K : St → Option St) (K' : St → Option (Int × St)) (q r : Nat), f_X9_findRows_L43 N K k (q + j + 1) s t = K u ∧ f_X12_resolve_L180 N K' k (r + j) s m = f_X12_resolve_L180 N K' k r (B (k + 1) : Nat) v := by
  intro j
  induction j with
  | zero =>
    intro s t m hs hs2 h
    have hsB : s = B (k + 1) := by omega
    have hX := h.1
    have m1 : B (k + 1) ≤ S := by rw [← hX.2.1.2.2]; exact hX.mono (by omega) (by omega)
    refine ⟨t, m, WGh.rf, WGm.rf, by rw [← hsB]; exact h, fun K K' q r => ⟨?_, by rw [hsB]; rfl⟩⟩
    unfold f_X9_findRows_L43
    simp only [lt1_k]
    rw [ixI_ok (by have := hX.1; omega), show ((k : Int) + 1).toNat = k + 1 by omega, hX.2.2.1 (k + 1) (by omega), cmpI_ok (by have := hX.1; omega), if_neg (by omega)]
  | succ j ih =>
    intro s t m hs hs2 h
    obtain ⟨hX, ⟨h98, h90⟩, hW, hZ, hD, ha1, ha2, ha3⟩ := h
    have hX0 := hX.1
    have m1 : B (k + 1) ≤ S := by rw [← hX.2.1.2.2]; exact hX.mono (by omega) (by omega)
    have m2 : B (k + 1) ≤ B L := hX.mono (by omega) (by omega)
    have hlev := hX.2.2.2.1
    have h93 : m.1 93 s = k := (hlev k (by omega)).2 s hs2 (by omega)
    have h0 := hZ s (Or.inr ⟨Nat.le_refl _, by omega⟩)
    have hw0 := hW k s (by omega) hs2 (by omega)
    obtain ⟨u, v, g1, g2, g3, g4, g5, g6⟩ := cz_both (N := N) (by omega) hX h98 hk ⟨hs2, by omega⟩ (fun z z1 z2 => hW (k + 1) z (by omega) z1 z2) ⟨by rw [hw0.1, h0.1], h0.1, h0.2⟩
    have hI : IVk L S w a k (s + 1) B u v := by
      refine ⟨hX.w g1 g2, ⟨by rw [g2.1 200 (by decide)]; exact h98, by rw [g2.1 200 (by decide)]; exact h90⟩, fun j z j1 j2 j3 => ?_, fun z hz => ?_, fun z hz => ?_, ha1, ha2, by rw [g2.2.2.2 a (by omega)]; exact ha3⟩
      · by_cases hzs : z = s
        · have h9 := (hlev j j1).2 z j2 j3
          rw [hzs, h93] at h9
          have hjk : j = k := by omega
          rw [hjk, hzs]
          exact g3
        · exact (hW j z j1 j2 j3).w g1 g2 hzs
      · rw [g2.2.2.2 z (by omega), g2.2.1 z (by omega)]
        exact hZ z (by omega)
      · by_cases hzs : z = s
        · rw [hzs]; exact g4
        · refine (hD z (by omega)).wf g2 hzs ?_
          rw [h93]
          rcases hz with hz | hz
          · rw [(hlev k (by omega)).2 z hz.1 (by omega)]; omega
          · obtain ⟨i, i1, i2, i3⟩ := lev_of hX.2.1.1 L z hz.2
            rw [(hlev i (by omega)).2 z i2 i3]
            by_cases hik : i ≤ k
            · have := hX.mono (show i + 1 ≤ k + 1 by omega) (by omega)
              omega
            · omega
    obtain ⟨u2, v2, k1, k2, k3, k4⟩ := ih (s + 1) u v (by omega) (by omega) hI
    refine ⟨u2, v2, g1.g.tr k1, g2.g.tr k2, k3, fun K K' q r => ⟨?_, ?_⟩⟩
    · refine Eq.trans ?_ (k4 K K' q r).1
      conv => lhs; unfold f_X9_findRows_L43
      simp only [lt1_k]
      rw [ixI_ok (by omega), show ((k : Int) + 1).toNat = k + 1 by omega, hX.2.2.1 (k + 1) (by omega), cmpI_ok (by omega), if_pos (by omega), g5, bdV_s, show (s : Int) + 1 = ((s + 1 : Nat) : Int) by omega]
      rfl
    · refine Eq.trans ?_ (k4 K K' q r).2
      rw [show r + (j + 1) = (r + j) + 1 by omega]
      conv => lhs; unfold f_X12_resolve_L180
      simp only [lt1_k, jn1_k]
      rw [h90, cmpI_ok (by omega), if_pos (by omega), ixI_ok (by omega), Int.toNat_natCast, h93, cmpI_ok (by omega), if_pos rfl, g6, bdV_s, show (s : Int) + 1 = ((s + 1 : Nat) : Int) by omega]
/-- the model passes over the states of other levels -/
theorem sk_lp {b : Nat} {m : St} {K' : St → Option (Int × St)} (hS : S ≤ 2000) (h90 : m.1 200 90 = S) (hb : b ≤ S) (hk : k ≤ 12) : ∀ (i s r : Nat), s + i = b → (∀ z, s ≤ z → z < b → m.1 93 z ≠ k ∧ 0 ≤ m.1 93 z ∧ m.1 93 z ≤ 12) → f_X12_resolve_L180 N K' k (r + i) s m = f_X12_resolve_L180 N K' k r b m := by
  intro i
  induction i with
  | zero =>
    intro s r hs _
    have : s = b := by omega
    subst this
    rfl
  | succ i ih =>
    intro s r hs h93
    have h9 := h93 s (by omega) (by omega)
    rw [← ih (s + 1) r (by omega) (fun z z1 z2 => h93 z (by omega) z2), show r + (i + 1) = (r + i) + 1 by omega]
    conv => lhs; unfold f_X12_resolve_L180
    simp only [lt1_k, jn1_k]
    rw [h90, cmpI_ok (by omega), if_pos (by omega), ixI_ok (by omega), Int.toNat_natCast, cmpI_ok (by omega), if_neg (by omega), show (s : Int) + 1 = ((s + 1 : Nat) : Int) by omega]
/-- all levels from i on are counted -/
def DNk (L S w a i : Nat) (B : Nat → Nat) (t m : St) : Prop := FXl L S w B t m ∧ (m.1 200 98 = w ∧ m.1 200 90 = S) ∧ (∀ j z, j ≤ L → B j ≤ z → z < B (j + 1) → WY1 L t m j z) ∧ (∀ z, z < B i → m.2 95 z = 0 ∧ m.1 96 z = 0) ∧ (∀ z, B i ≤ z → z < B L → SMz w m z) ∧ B L ≤ a ∧ a < S ∧ m.2 95 a = 1
theorem rl_lp (hN : 100000 ≤ N) : ∀ (i : Nat) (t m : St), i ≤ L → DNk L S w a i B t m →
    ∃ u v : St, WGh t u ∧ WGm m v ∧ DNk L S w a 0 B u v ∧ ∀ (K : St → Option St) (K' : St → Option (Int × St)) (q r : Nat), f_X9_findRows_L31 N K (q + i + 1) ((i : Int) - 1) t = K u ∧ f_X12_resolve_L172 N K' (r + i + 1) ((i : Int) - 1) m = K' v := by
  intro i
  induction i with
  | zero =>
    intro t m hi h
    refine ⟨t, m, WGh.rf, WGm.rf, h, fun K K' q r => ⟨?_, ?_⟩⟩
    · unfold f_X9_findRows_L31
      rw [cmpI_ok (by omega), if_pos (by omega)]
    · unfold f_X12_resolve_L172
      rw [cmpI_ok (by omega), if_pos (by omega)]
  | succ i ih =>
    intro t m hi h
    obtain ⟨hX, h98, hW, hZ, hD, ha⟩ := h
    have hX0 := hX.1
    have hlev := hX.2.2.2.1
    have mi : B i ≤ B (i + 1) := (hlev i (by omega)).1
    have mS : B (i + 1) ≤ S := by rw [← hX.2.1.2.2]; exact hX.mono (by omega) (by omega)
    have hI : IVk L S w a i (B i) B t m := ⟨hX, h98, hW, fun z hz => hZ z (by omega), fun z hz => hD z (by omega) (by omega), ha⟩
    obtain ⟨u, v, g1, g2, g3, g4⟩ := rk_lp (N := N) hN (show i < L by omega) (B (i + 1) - B i) (B i) t m (by omega) (Nat.le_refl _) hI
    obtain ⟨hX2, h982, hW2, hZ2, hD2, ha2⟩ := g3
    obtain ⟨u2, v2, k1, k2, k3, k4⟩ := ih u v (by omega) ⟨hX2, h982, hW2, fun z hz => hZ2 z (Or.inl hz), fun z z1 z2 => hD2 z (by omega), ha2⟩
    have hlv : ∀ z, z < S → 0 ≤ m.1 93 z ∧ m.1 93 z ≤ 12 ∧ (z < B i ∨ B (i + 1) ≤ z → m.1 93 z ≠ i) := fun z hz => by
      obtain ⟨j, j1, j2, j3⟩ := lev_of hX.2.1.1 (L + 1) z (by rw [hX.2.1.2.2]; exact hz)
      have h9 := (hlev j (by omega)).2 z j2 j3
      refine ⟨by omega, by omega, fun hh h => ?_⟩
      have hji : j = i := by omega
      rw [hji] at j2 j3
      omega
    refine ⟨u2, v2, g1.tr k1, g2.tr k2, k3, fun K K' q r => ⟨?_, ?_⟩⟩
    · refine Eq.trans ?_ (k4 K K' q r).1
      conv => lhs; unfold f_X9_findRows_L31
      simp only [lt1_k]
      rw [cmpI_ok (by omega), if_neg (by omega), ixI_ok (by omega), show (((i + 1 : Nat) : Int) - 1).toNat = i by omega, show ((i + 1 : Nat) : Int) - 1 = (i : Int) by omega, hX.2.2.1 i (by omega)]
      have := (g4 (fun (t15 : St) => f_X9_findRows_L31 N K (q + (i + 1)) ((i : Int) + (-1)) t15) K' (N - (B (i + 1) - B i) - 1) r).1
      rw [show N - (B (i + 1) - B i) - 1 + (B (i + 1) - B i) + 1 = N by omega] at this
      rw [this, show (i : Int) + (-1) = (i : Int) - 1 by omega]
      rfl
    · refine Eq.trans ?_ (k4 K K' q r).2
      conv => lhs; unfold f_X12_resolve_L172
      rw [cmpI_ok (by omega), if_neg (by omega), show ((i + 1 : Nat) : Int) - 1 = (i : Int) by omega]
      generalize hKK : (fun (t49 : St) => f_X12_resolve_L172 N K' (r + (i + 1)) ((i : Int) + -1) t49) = KK
      have s1 := sk_lp (N := N) (S := S) (k := i) (b := B i) (m := m) (K' := KK) hX0.2.1 h98.2 (by omega) (by omega) (B i) 0 (N - B i) (by omega) (fun z _ z2 => by have := hlv z (by omega); exact ⟨this.2.2 (Or.inl z2), this.1, this.2.1⟩)
      have s2 := (g4 (fun _ => none) KK 0 (N - B (i + 1))).2
      have s3 := sk_lp (N := N) (S := S) (k := i) (b := S) (m := v) (K' := KK) hX0.2.1 h982.2 (Nat.le_refl _) (by omega) (S - B (i + 1)) (B (i + 1)) (N - S) (by omega) (fun z z1 z2 => by rw [g2.1 93 (by decide)]; have := hlv z z2; exact ⟨this.2.2 (Or.inr z1), this.1, this.2.1⟩)
      rw [show N - B i + B i = N by omega] at s1
      rw [show N - B (i + 1) + (B (i + 1) - B i) = N - B i by omega] at s2
      rw [show N - S + (S - B (i + 1)) = N - B (i + 1) by omega] at s3
      refine Eq.trans (s1.trans (s2.trans s3)) ?_
      obtain ⟨p, hp⟩ : ∃ p, N - S = p + 1 := ⟨N - S - 1, by omega⟩
      rw [hp]
      conv => lhs; unfold f_X12_resolve_L180
      simp only [lt1_k, jn1_k]
      rw [h982.2, cmpI_ok (by omega), if_neg (by omega), ← hKK, show (i : Int) + -1 = (i : Int) - 1 by omega]
      rfl
/-- some row leads from the first state to the aim -/
theorem ways_pos {t m : St} (h : DNk L S w a 0 B t m) (hP : ∀ z : Nat, 1 ≤ z → z < S → ∃ y, y < 32 * B L ∧ y % 32 < w ∧ m.1 94 y = z ∧ m.1 93 z = m.1 93 (y / 32) + 1) : m.2 95 0 ≠ 0 := by
  obtain ⟨hX, _, hW, _, hD, ha1, ha2, ha3⟩ := h
  have hlev := hX.2.2.2.1
  have hb := hX.2.1
  have key : ∀ (d z : Nat), z < S → m.1 93 z = d → m.2 95 z ≠ 0 → m.2 95 0 ≠ 0 := by
    intro d
    induction d with
    | zero =>
      intro z hz h9 hn
      obtain ⟨j, j1, j2, j3⟩ := lev_of hb.1 (L + 1) z (by rw [hb.2.2]; exact hz)
      have h10 := (hlev j (by omega)).2 z j2 j3
      have hj : j = 0 := by omega
      rw [hj, hb.2.1] at j3
      have : z = 0 := by omega
      rw [← this]; exact hn
    | succ d ih =>
      intro z hz h9 hn
      have hz1 : 1 ≤ z := by
        by_cases h0 : z = 0
        · have h10 := (hlev 0 (by omega)).2 0 (by omega) (by rw [hb.2.1]; omega)
          rw [h0] at h9
          omega
        · omega
      obtain ⟨y, y1, y2, y3, y4⟩ := hP z hz1 hz
      have m3 : B L ≤ S := by rw [← hb.2.2]; exact hX.mono (by omega) (by omega)
      have hld : ld9 m (y / 32) (y % 32) = z := by unfold ld9; rw [show 32 * (y / 32) + y % 32 = y by omega]; exact y3
      have hon : onQ m (y / 32) (y % 32) := ⟨by rw [hld]; omega, by rw [hld, Int.toNat_natCast]; exact y4, by rw [hld, Int.toNat_natCast]; exact hn⟩
      refine ih (y / 32) (by omega) (by omega) ?_
      have hs := (hD (y / 32) (by omega) (by omega)).1
      have hmn : ∀ i, y % 32 < i → 0 < nsm m (y / 32) i := by
        intro i
        induction i with
        | zero => intro h; omega
        | succ i ih2 =>
          intro hi
          by_cases hiy : y % 32 = i
          · rw [← hiy, nsm_y hon, hld, Int.toNat_natCast]
            have : uq (m.2 95 z) ≠ 0 := fun h2 => hn (uq_inj (by rw [h2]; decide))
            omega
          · have h1 := ih2 (by omega)
            by_cases c : onQ m (y / 32) i
            · rw [nsm_y c]; omega
            · rw [nsm_n c]; exact h1
      intro h0
      have := hmn w y2
      rw [← hs, h0] at this
      exact absurd this (by decide)
  obtain ⟨j, j1, j2, j3⟩ := lev_of hb.1 (L + 1) a (by rw [hb.2.2]; exact ha2)
  exact key j a ha2 ((hlev j (by omega)).2 a j2 j3) (by rw [ha3]; decide)
end
