/-! searching: level by level -/
theorem FLr.c {o : Nat} {t u : St} (h : FLr o t) (g : ∀ x, (x = 305 + o ∨ (390 + 10 * o ≤ x ∧ x ≤ 397 + 10 * o)) → u.1 x = t.1 x) : FLr o u := by
  obtain ⟨X, Y, W, n, h1, h2⟩ := h
  refine ⟨X, Y, W, n, h1, ?_⟩
  unfold FH at h2 ⊢
  rw [g (305 + o) (by omega), g (390 + 10 * o) (by omega), g (391 + 10 * o) (by omega), g (392 + 10 * o) (by omega), g (397 + 10 * o) (by omega)]
  exact h2
theorem LVr.up {w l S0 S s : Nat} {t m : St} (h : LVr w l S0 S (32 * s + w) t m) (hw : w ≤ 32) : LVr w l S0 S (32 * (s + 1)) t m := by
  obtain ⟨h1, h2, h3⟩ := h
  refine ⟨fun y hy hw2 => h1 y (by omega) hw2, fun z hz1 hz2 => ?_, h3⟩
  obtain ⟨y, y1, y2⟩ := h2 z hz1 hz2
  exact ⟨y, by omega, y2⟩
set_option maxHeartbeats 1000000 in
/-- all states of a level -/
theorem wd_lp {N n w l S0 : Nat} (hN : 100000 ≤ N) (hn : 1 ≤ n ∧ n ≤ 16) (hl : l ≤ 12) : ∀ (j s S e : Nat) (pl : Nat → Nat) (t m : St), s + j = S0 → WDr n w S e pl t m → CIk t → FLr 1 t → LVr w l S0 S (32 * s) t m → (∀ z, s ≤ z → z < S0 → m.1 93 z = l) → t.1 433 (l + 1) = S0 → t.1 304 11 + 2048 * j ≤ 1900000000 → (0 ≤ t.1 306 9 ∧ t.1 306 9 + j ≤ 2000000000) →
    ∃ (u v : St) (S2 e2 : Nat) (pl2 : Nat → Nat), SHg t u ∧ SMf m v ∧ CIk u ∧ FLr 1 u ∧ u.1 304 11 ≤ t.1 304 11 + 2048 * j ∧ (0 ≤ u.1 306 9 ∧ u.1 306 9 ≤ t.1 306 9 + j) ∧ u.1 433 = t.1 433 ∧ WDr n w S2 e2 pl2 u v ∧ S ≤ S2 ∧ e2 + S = e + S2 ∧
      ((∀ K K' : St → Option (Int × St), ∀ q r : Nat, f_X9_widen_L7 N K l n (q + j + 1) s t = some (0, u) ∧ f_X12_levelBehind_L7 N K' l S0 (r + j + 1) s m = some (0, v)) ∨
       ((∀ K K' : St → Option (Int × St), ∀ q r : Nat, f_X9_widen_L7 N K l n (q + j + 1) s t = K u ∧ f_X12_levelBehind_L7 N K' l S0 (r + j + 1) s m = K' v) ∧ LVr w l S0 S2 (32 * S0) u v ∧ (∀ z, z < S → v.1 93 z = m.1 93 z) ∧ ∀ y, y < 16 * S → v.1 92 y = m.1 92 y)) := by
  intro j
  induction j with
  | zero =>
    intro s S e pl t m hs hW hC hF hV h93 h433 hb hv
    have hsS : s = S0 := by omega
    subst hsS
    have hS := hW.1.2.2.1.1
    have := hV.2.2.2
    refine ⟨t, m, S, e, pl, SHg.rf, SMf.rf, hC, hF, by omega, by omega, rfl, hW, Nat.le_refl _, rfl, Or.inr ⟨fun K K' q r => ⟨?_, ?_⟩, hV, fun _ _ => rfl, fun _ _ => rfl⟩⟩
    · unfold f_X9_widen_L7
      simp only [lt1_k, jn1_k]
      rw [ixI_ok (by omega), show ((l : Int) + 1).toNat = l + 1 by omega, h433, cmpI_ok (by omega), if_neg (by omega)]
    · unfold f_X12_levelBehind_L7
      simp only [lt1_k, jn1_k]
      rw [cmpI_ok (by omega), if_neg (by omega)]
  | succ j ih =>
    intro s S e pl t m hs hW hC hF hV h93 h433 hb hv
    have hW0 := hW
    obtain ⟨⟨hB, hLI, hSS⟩, ⟨w1, w2, w3⟩, ⟨h37, h54⟩, hA⟩ := hW
    have hS := hSS.1.1
    have hS0 := hV.2.2.2
    have h32 : w ≤ 32 := by obtain ⟨_, _, n9, _⟩ := hB.2.1; omega
    obtain ⟨t1, u1, a1, a2, a3, a4, a5⟩ := wi_pl (N := N) hn.2 hB hC hF (hSS.2.2.2.1 s (by omega)) (by omega) h37 h54 (by omega) (by omega)
    have f304 : u1.1 304 = t.1 304 := a4.1 304 (by decide) (by decide) (by decide)
    have f310 : u1.1 310 = t.1 310 := a4.1 310 (by decide) (by decide) (by decide)
    have hW1 : WDr n w S e pl u1 m := hW0.sg a4.g (by rw [f304]) (a4.1 378 (by decide) (by decide) (by decide)) (a4.1 431 (by decide) (by decide) (by decide)) (a4.2.2 430 (by decide)) ⟨by rw [f310], by rw [f310]⟩
    have hV1 : LVr w l S0 S (32 * s + 0) u1 m := hV.t (a4.1 432 (by decide) (by decide) (by decide))
    have hF1 : FLr 1 u1 := by obtain ⟨mm, hE, _⟩ := a3; exact hE.fl
    obtain ⟨u2, v2, S2, e2, pl2, k1, k2, k3, k4, k5, k6, k7, k8⟩ := wi_lp (N := N) (l := l) (S0 := S0) hN hn (show s < S0 by omega) w 0 S e pl u1 m (by omega) hW1 a3 hV1 (h93 s (Nat.le_refl _) (by omega)) (by rw [f304]; omega)
    have hk9 : u2.1 306 = u1.1 306 := k1.1 306 (by decide) (by decide) (by decide) (by decide) (by decide) (by decide)
    have hk433 : u2.1 433 = t.1 433 := by rw [k1.1 433 (by decide) (by decide) (by decide) (by decide) (by decide) (by decide), a4.1 433 (by decide) (by decide) (by decide)]
    have hF2 : FLr 1 u2 := hF1.c (fun x hx => k1.1 x (by omega) (by omega) (by omega) (by omega) (by omega) (by omega))
    rw [f304] at k4
    have hh : ∀ (K : St → Option (Int × St)) (q : Nat), f_X9_widen_L7 N K l n (q + (j + 1) + 1) s t = f_X9_widen_L40 N (fun (t29 : St) => f_X9_widen_L7 N K l n (q + j + 1) ((s + 1 : Nat) : Int) t29) n s ((N - w - 1) + w + 1) 0 u1 := by
      intro K q
      rw [show (N - w - 1) + w + 1 = N by omega]
      conv => lhs; unfold f_X9_widen_L7
      simp only [lt1_k, jn1_k]
      rw [ixI_ok (by omega), show ((l : Int) + 1).toNat = l + 1 by omega, h433, cmpI_ok (by omega), if_pos (by omega), a1, bdV_s, a2, bdV_s, show (s : Int) + 1 = ((s + 1 : Nat) : Int) by omega]
      rfl
    have hm : ∀ (K' : St → Option (Int × St)) (r : Nat), f_X12_levelBehind_L7 N K' l S0 (r + (j + 1) + 1) s m = f_X12_levelBehind_L28 N (fun (t36 : St) => f_X12_levelBehind_L7 N K' l S0 (r + j + 1) ((s + 1 : Nat) : Int) t36) l s ((N - w - 1) + w + 1) 0 m := by
      intro K' r
      rw [show (N - w - 1) + w + 1 = N by omega]
      conv => lhs; unfold f_X12_levelBehind_L7
      simp only [lt1_k, jn1_k]
      rw [cmpI_ok (by omega), if_pos (by omega), ixI_ok (by omega), Int.toNat_natCast, h93 s (Nat.le_refl _) (by omega), cmpI_ok (by omega), if_pos rfl, show (s : Int) + 1 = ((s + 1 : Nat) : Int) by omega]
      rfl
    rcases k8 with k8 | ⟨k8, k9, k10, k11⟩
    · refine ⟨u2, v2, S2, e2, pl2, a4.g.tr k1.g, k2, k3, hF2, by omega, by rw [hk9, a5]; omega, hk433, k5, k6, k7, Or.inl (fun K K' q r => ?_)⟩
      have b := k8 (fun (t29 : St) => f_X9_widen_L7 N K l n (q + j + 1) ((s + 1 : Nat) : Int) t29) (fun (t36 : St) => f_X12_levelBehind_L7 N K' l S0 (r + j + 1) ((s + 1 : Nat) : Int) t36) (N - w - 1) (N - w - 1)
      exact ⟨(hh K q).trans b.1, (hm K' r).trans b.2⟩
    · obtain ⟨u3, v3, S3, e3, pl3, j1, j2, j3, j4, j5, j6, j7, j8, j9, j10, j11⟩ := ih (s + 1) S2 e2 pl2 u2 v2 (by omega) k5 k3 hF2 (k9.up h32) (fun z z1 z2 => by rw [k10 z (by omega)]; exact h93 z (by omega) z2) (by rw [hk433]; exact h433) (by omega) (by rw [hk9, a5]; omega)
      rw [hk9, a5] at j6
      refine ⟨u3, v3, S3, e3, pl3, (a4.g.tr k1.g).tr j1, k2.tr j2, j3, j4, by omega, by omega, by rw [j7, hk433], j8, by omega, by omega, ?_⟩
      have b := fun (K K' : St → Option (Int × St)) (q r : Nat) => k8 (fun (t29 : St) => f_X9_widen_L7 N K l n (q + j + 1) ((s + 1 : Nat) : Int) t29) (fun (t36 : St) => f_X12_levelBehind_L7 N K' l S0 (r + j + 1) ((s + 1 : Nat) : Int) t36) (N - w - 1) (N - w - 1)
      rcases j11 with j11 | ⟨j11, j12, j13, j14⟩
      · left
        intro K K' q r
        exact ⟨((hh K q).trans (b K K' q r).1).trans (j11 K K' q r).1, ((hm K' r).trans (b K K' q r).2).trans (j11 K K' q r).2⟩
      · right
        refine ⟨fun K K' q r => ⟨((hh K q).trans (b K K' q r).1).trans (j11 K K' q r).1, ((hm K' r).trans (b K K' q r).2).trans (j11 K K' q r).2⟩, j12, fun z hz => by rw [j13 z (by omega), k10 z hz], fun y hy => by rw [j14 y (by omega), k11 y hy]⟩
/-- the model passes over the states of the levels before -/
theorem m_skip {N l S0 b : Nat} {m : St} {K' : St → Option (Int × St)} (hb : b ≤ S0) (hS0 : S0 ≤ 2000) (hl : l ≤ 12) (h93 : ∀ z, z < b → 0 ≤ m.1 93 z ∧ m.1 93 z < l) : ∀ (i s r : Nat), s + i = b → f_X12_levelBehind_L7 N K' l S0 (r + i) s m = f_X12_levelBehind_L7 N K' l S0 r b m := by
  intro i
  induction i with
  | zero =>
    intro s r hs
    have : s = b := by omega
    subst this
    rfl
  | succ i ih =>
    intro s r hs
    have h9 := h93 s (by omega)
    rw [← ih (s + 1) r (by omega), show r + (i + 1) = (r + i) + 1 by omega]
    conv => lhs; unfold f_X12_levelBehind_L7
    simp only [lt1_k, jn1_k]
    rw [cmpI_ok (by omega), if_pos (by omega), ixI_ok (by omega), Int.toNat_natCast, cmpI_ok (by omega), if_neg (by omega), show (s : Int) + 1 = ((s + 1 : Nat) : Int) by omega]
/-- all levels met so far -/
def LEV (n w l S e : Nat) (pl B : Nat → Nat) (t m : St) : Prop := (WDr n w S e pl t m ∧ CIk t ∧ FLr 1 t) ∧ LVr w l S S (32 * B l) t m ∧ (B 0 = 0 ∧ B 1 = 1 ∧ B (l + 1) = S) ∧ (∀ k, k ≤ l + 1 → t.1 433 k = B k) ∧ ∀ k, k ≤ l → B k ≤ B (k + 1) ∧ ∀ z, B k ≤ z → z < B (k + 1) → m.1 93 z = k
theorem lev_of {B : Nat → Nat} (h0 : B 0 = 0) : ∀ (k z : Nat), z < B k → ∃ j, j < k ∧ B j ≤ z ∧ z < B (j + 1) := by
  intro k
  induction k with
  | zero => intro z hz; omega
  | succ k ih =>
    intro z hz
    by_cases h : z < B k
    · obtain ⟨j, j1, j2⟩ := ih z h
      exact ⟨j, by omega, j2⟩
    · exact ⟨k, by omega, by omega, hz⟩
theorem lev_mono {B : Nat → Nat} {l : Nat} (h : ∀ k, k ≤ l → B k ≤ B (k + 1)) : ∀ (i k : Nat), k + i ≤ l + 1 → B k ≤ B (k + i) := by
  intro i
  induction i with
  | zero => intro k _; exact Nat.le_refl _
  | succ i ih =>
    intro k hk
    have a := ih k (by omega)
    have b := h (k + i) (by omega)
    rw [show k + (i + 1) = k + i + 1 by omega]
    omega
set_option maxHeartbeats 1000000 in
/-- a level more -/
theorem level_both {N n w l S e : Nat} {pl B : Nat → Nat} {t m : St} (hN : 100000 ≤ N) (hn : 1 ≤ n ∧ n ≤ 16) (hl : l ≤ 11) (h : LEV n w l S e pl B t m) (hb : t.1 304 11 + 2048 * (S - B l : Nat) ≤ 1900000000) (hv : 0 ≤ t.1 306 9 ∧ t.1 306 9 + (S - B l : Nat) ≤ 2000000000) :
    ∃ (u v : St) (S2 e2 : Nat) (pl2 : Nat → Nat), SHg t u ∧ SMf m v ∧ CIk u ∧ FLr 1 u ∧ u.1 304 11 ≤ t.1 304 11 + 2048 * (S - B l : Nat) ∧ (0 ≤ u.1 306 9 ∧ u.1 306 9 ≤ t.1 306 9 + (S - B l : Nat)) ∧ WDr n w S2 e2 pl2 u v ∧ S ≤ S2 ∧ e2 + S = e + S2 ∧
      ((f_X9_widen N l n t = some (0, u) ∧ f_X12_levelBehind N l m = some (0, v)) ∨
       (f_X9_widen N l n t = some (1, u) ∧ f_X12_levelBehind N l m = some (1, v) ∧ LEV n w (l + 1) S2 e2 pl2 (fun k => if k = l + 2 then S2 else B k) u v ∧ ∀ y, y < 16 * S → v.1 92 y = m.1 92 y)) := by
  obtain ⟨⟨hW, hC, hF⟩, hV, ⟨b0, b1, b2⟩, h433, hlev⟩ := h
  have hS := hW.1.2.2.1.1
  have hSS := hW.1.2.2
  have hBS : B l ≤ S := by have := (hlev l (Nat.le_refl _)).1; omega
  have hold : ∀ z, z < B l → 0 ≤ m.1 93 z ∧ m.1 93 z < l := fun z hz => by
    obtain ⟨j, j1, j2, j3⟩ := lev_of b0 l z hz
    rw [(hlev j (by omega)).2 z j2 j3]
    omega
  obtain ⟨u, v, S2, e2, pl2, a1, a2, a3, a4, a5, a6, a7, a8, a9, a10, a11⟩ := wd_lp (N := N) (w := w) (l := l) (S0 := S) hN hn (by omega) (S - B l) (B l) S e pl t m (by omega) hW hC hF hV (fun z z1 z2 => (hlev l (Nat.le_refl _)).2 z z1 (by omega)) (by rw [h433 (l + 1) (by omega), b2]) hb hv
  have hS2 := a8.1.2.2.1.1
  have hun : f_X9_widen N l n t = f_X9_widen_L7 N (fun (t30 : St) => ixI ((l : Int) + 2) 15 (boI 1 (some (1, pI t30 433 ((l : Int) + 2).toNat (t30.1 310 11))))) l n ((N - (S - B l) - 1) + (S - B l) + 1) (B l : Nat) t := by
    rw [show (N - (S - B l) - 1) + (S - B l) + 1 = N by omega]
    unfold f_X9_widen
    simp only [lt1_k]
    rw [ixI_ok (by omega), Int.toNat_natCast, h433 l (by omega)]
  have hmu : f_X12_levelBehind N l m = f_X12_levelBehind_L7 N (fun (t37 : St) => boI 1 (some (1, t37))) l S ((N - S - 1) + (S - B l) + 1) (B l : Nat) m := by
    unfold f_X12_levelBehind
    simp only [lt1_k]
    rw [hSS.2.1.2]
    have := m_skip (N := N) (l := l) (S0 := S) (b := B l) (m := m) (K' := fun (t37 : St) => boI 1 (some (1, t37))) hBS hS (by omega) hold (B l) 0 ((N - S - 1) + (S - B l) + 1) (by omega)
    rw [← this, show (N - S - 1) + (S - B l) + 1 + B l = N by omega]
    rfl
  rcases a11 with a11 | ⟨a11, a12, a13, a14⟩
  · refine ⟨u, v, S2, e2, pl2, a1, a2, a3, a4, a5, a6, a8, a9, a10, Or.inl ⟨?_, ?_⟩⟩
    · rw [hun]; exact (a11 _ (fun _ => none) _ 0).1
    · rw [hmu]; exact (a11 (fun _ => none) _ 0 _).2
  · have h11 : u.1 310 11 = S2 := a8.1.2.2.2.1.1
    have hp : SHg u (pI u 433 (l + 2) S2) := ⟨fun x _ _ _ _ _ _ _ _ z9 _ => pI_ne z9, fun b _ => by rw [pI_ne (by decide)], fun b _ _ => by rw [pI_ne (by decide)], fun y _ _ => by rw [pI_ne (by decide)], fun b _ _ _ => by rw [pI_ne (by decide)], fun _ _ _ _ _ _ _ _ => rfl⟩
    have hW2 : WDr n w S2 e2 pl2 (pI u 433 (l + 2) S2) v := a8.sg hp (by rw [pI_ne (by decide)]) (by rw [pI_ne (by decide)]) (by rw [pI_ne (by decide)]) rfl ⟨by rw [pI_ne (by decide)], by rw [pI_ne (by decide)]⟩
    have hC2 : CIk (pI u 433 (l + 2) S2) := a3.ch (fun x hx => pI_ne (by omega)) rfl
    have hF2 : FLr 1 (pI u 433 (l + 2) S2) := a4.c (fun x hx => pI_ne (by omega))
    refine ⟨pI u 433 (l + 2) S2, v, S2, e2, pl2, a1.tr hp, a2, hC2, hF2, by rw [pI_ne (by decide)]; exact a5, by rw [pI_ne (by decide)]; exact a6, hW2, a9, a10, Or.inr ⟨?_, ?_, ⟨⟨hW2, hC2, hF2⟩, ?_, ⟨?_, ?_, ?_⟩, fun k hk => ?_, fun k hk => ?_⟩, a14⟩⟩
    · rw [hun, (a11 _ (fun _ => none) _ 0).1, ixI_ok (by omega), boI_1, show ((l : Int) + 2).toNat = l + 2 by omega, h11]
    · rw [hmu, (a11 (fun _ => none) _ 0 _).2, boI_1]
    · obtain ⟨c1, c2, c3, c4⟩ := a12
      show LVr w (l + 1) S2 S2 (32 * (if l + 1 = l + 2 then S2 else B (l + 1))) (pI u 433 (l + 2) S2) v
      rw [if_neg (by omega), b2]
      refine ⟨fun y hy hw2 => ?_, c2, fun z z1 z2 => by omega, Nat.le_refl _⟩
      rw [pI_ne (by decide)]
      exact c1 y hy hw2
    · show (if 0 = l + 2 then S2 else B 0) = 0
      rw [if_neg (by omega), b0]
    · show (if 1 = l + 2 then S2 else B 1) = 1
      rw [if_neg (by omega), b1]
    · show (if l + 1 + 1 = l + 2 then S2 else B (l + 1 + 1)) = S2
      rw [if_pos (by omega)]
    · show (pI u 433 (l + 2) S2).1 433 k = ((if k = l + 2 then S2 else B k : Nat) : Int)
      by_cases hk2 : k = l + 2
      · rw [if_pos hk2, hk2, pI_at]
      · rw [if_neg hk2, pI_nf hk2, a7, h433 k (by omega)]
    · show (if k = l + 2 then S2 else B k) ≤ (if k + 1 = l + 2 then S2 else B (k + 1)) ∧ ∀ z, (if k = l + 2 then S2 else B k) ≤ z → z < (if k + 1 = l + 2 then S2 else B (k + 1)) → v.1 93 z = k
      rw [if_neg (show ¬ k = l + 2 by omega)]
      by_cases hk2 : k = l + 1
      · rw [if_pos (show k + 1 = l + 2 by omega), hk2, b2]
        exact ⟨a9, fun z z1 z2 => a12.2.2.1 z z1 z2⟩
      · rw [if_neg (show ¬ k + 1 = l + 2 by omega)]
        have hk3 := hlev k (by omega)
        have hmn := lev_mono (l := l) (fun k hk => (hlev k hk).1) (l + 1 - (k + 1)) (k + 1) (by omega)
        rw [show k + 1 + (l + 1 - (k + 1)) = l + 1 by omega, b2] at hmn
        exact ⟨hk3.1, fun z z1 z2 => by rw [a13 z (by omega)]; exact hk3.2 z z1 z2⟩
/-- the aim looked up -/
theorem aim_look {N n w S e : Nat} {pl : Nat → Nat} {t m : St} (hn : n ≤ 16) (hW : WDr n w S e pl t m) (hA : ∀ d, d < n → t.1 320 d = cdZ (m.1 47 d) (m.1 48 d) (m.1 49 d) ∧ m.1 47 d ≤ 60 ∧ m.1 48 d ≤ 60) (hN : 5000 ≤ N) :
    ∃ (u : St) (p : Nat), f_X9_pack N 320 64 n t = some u ∧ f_X9_placeOfKey N u = some ((p : Int), u) ∧ p < 4096 ∧ u.1 = t.1 ∧ (∀ a, a ≠ 436 → u.2 a = t.2 a) ∧ ((m.1 200 99 = -1 ∧ t.1 431 p = 0 ∧ ∀ s, s < S → ¬ aimR m n s) ∨ ∃ a : Nat, a < S ∧ m.1 200 99 = a ∧ aimR m n a ∧ t.1 431 p = ((a + 1 : Nat) : Int)) := by
  obtain ⟨⟨hB, hLI, hSS⟩, ⟨w1, w2, w3⟩, ⟨h37, h54⟩, hO⟩ := hW
  obtain ⟨hT, ⟨h11, h90⟩, ⟨h13, h89, he⟩, hR, hI⟩ := hSS
  obtain ⟨u, a1, a2, a3, a4⟩ := h_pack (N := N) (C := fun d => cdZ (m.1 47 d) (m.1 48 d) (m.1 49 d)) (q0 := 320) (n0 := 64) (n := n) (t := t) (by omega) (fun d hd => ⟨(hA d hd).1, cdZ_rng (hO d hd).1 (hO d hd).2.1 (hO d hd).2.2⟩) (by omega)
  have hTu : HTb u S pl := hT.fr (by rw [a2]) (a3 430 (by decide))
  have hRu : ∀ s, s < S → ROWr n u m s := fun s hs => (hR s hs).fr (fun j _ => by rw [a3 430 (by decide)]) (fun _ _ => rfl)
  have hkey : ∀ s, s < S → (sk9 (ky9 u s) (u.2 436) ↔ aimR m n s) := fun s hs => by
    rw [key_eq (t := u) hn (hRu s hs) (fun d hd => smC_of (hO d hd).1 (hO d hd).2.1 (hO d hd).2.2 (hA d hd).2.1 (hA d hd).2.2) a4]
    constructor
    · intro h d hd
      exact (stCo_eq (hRu s hs) hd (hO d hd).1 (hO d hd).2.1 (hO d hd).2.2).mp (h d hd)
    · intro h d hd
      exact (stCo_eq (hRu s hs) hd (hO d hd).1 (hO d hd).2.1 (hO d hd).2.2).mpr (h d hd)
  obtain ⟨p, p1, p2, p3⟩ := h_find9 (N := N) hTu hN
  refine ⟨u, p, a1, p2, p1, a2, a3, ?_⟩
  rcases p3 with ⟨s, s1, s2, s3⟩ | ⟨s1, s2, _⟩
  · right
    have har := (hkey s s1).mp s3
    refine ⟨s, s1, ?_, har, by rw [← s2]; exact (hT.2.1 s s1).2⟩
    rcases hI with ⟨_, i2⟩ | ⟨a, i1, i2, i3⟩
    · exact absurd har (i2 s s1)
    · have hk2 := (hkey a i1).mpr i3
      have : a = s := hTu.2.2.2.2 a s i1 s1 ⟨hk2.1.trans s3.1.symm, hk2.2.1.trans s3.2.1.symm, hk2.2.2.trans s3.2.2.symm⟩
      rw [i2, this]
  · left
    rcases hI with ⟨i1, i2⟩ | ⟨a, i1, i2, i3⟩
    · exact ⟨i1, by rw [← a2]; exact s1, i2⟩
    · exact absurd ((hkey a i1).mpr i3) (s2 a i1)
