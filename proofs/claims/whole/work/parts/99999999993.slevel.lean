/-! searching: a whole level -/
theorem BK0.eb {t m : St} (h : BK0 t m) (c : CIk t) : EVb t m := ⟨c, ⟨h.2.1.2.1.1, h.2.1.2.2.1.1, h.2.1.2.2.1.2.1⟩, h.2.2.1⟩
/-- a floor laid out anew, where home does not count -/
theorem EVb.pv {o n : Nat} {t u m w : St} {X Y W : Nat → Int} (ho : o < 2) (h : EVb t m) (hV : FXs X Y W n) (hF : FH o u X Y W n) (hord : ∀ i, i < n → u.1 (395 + 10 * o) i = ord9 X Y n i) (hfc : ∀ f e : Nat, f < 4 → e < 64 → bq (u.2 (396 + 10 * o) f) e = decide (e < n ∧ W e = f)) (gv : u.1 (305 + o) 9 = t.1 (305 + o) 9 + 1) (gv2 : inR (t.1 (305 + o) 9 + 1)) (g : hpl o t u)
    (hw : ∀ d, d < n → w.1 38 d = X d ∧ w.1 39 d = Y d ∧ w.1 40 d = W d) (hn : w.1 200 37 = n) (hng : ¬ hGd o w) (hb : ∀ a, 18 ≤ a → a ≤ 22 → w.1 a = m.1 a) (hb14 : w.1 200 14 = m.1 200 14) : EVr o u w n := by
  obtain ⟨h5, h7, h8⟩ := h
  have e : ∀ a, (a < 305 ∨ 306 < a) → (a < 390 ∨ 409 < a) → u.1 a = t.1 a := fun a h1 h2 => g.1 a (by omega) (by omega) (by omega) (by omega) (by omega) (by omega)
  refine ⟨ho, ⟨⟨hn, FXs_cong hV hw⟩, FH_cong hF hw⟩, fun i hi => ?_, fun fc d hf hd => ?_, fun hg => absurd hg hng, h5.pl ho g gv, by rw [gv]; exact gv2, by rw [e 312 (by omega) (by omega), hb14]; exact h7, fun f hf => ?_⟩
  · rw [hord i hi, ← ord9_cong (X := w.1 38) (Y := w.1 39) (fun d hd => ⟨(hw d hd).1, (hw d hd).2.1⟩)]
    exact (odM_lt hi).2
  · rw [hfc fc d hf hd]
    apply Bool.eq_iff_iff.mpr
    rw [decide_eq_true_iff, decide_eq_true_iff]
    constructor
    · intro h; exact ⟨h.1, by rw [(hw d h.1).2.2]; exact h.2⟩
    · intro h; exact ⟨h.1, by rw [← (hw d h.1).2.2]; exact h.2⟩
  · rw [hb14] at hf
    obtain ⟨k, a1, a2⟩ := h8 f hf
    refine ⟨k, ?_, ?_⟩
    · unfold fmO
      rw [hb 18 (by omega) (by omega), hb 19 (by omega) (by omega), hb 20 (by omega) (by omega), hb 21 (by omega) (by omega), hb 22 (by omega) (by omega)]
      exact a1
    · unfold fhO
      rw [hb 19 (by omega) (by omega), hb 20 (by omega) (by omega), hb 21 (by omega) (by omega), hb 22 (by omega) (by omega), e 350 (by omega) (by omega), e 351 (by omega) (by omega), e 352 (by omega) (by omega), e 353 (by omega) (by omega)]
      exact a2
/-- what a state laid out changes of the hall -/
def SPl (t u : St) : Prop := (∀ a, a ≠ 306 → (a < 400 ∨ 407 < a) → a ≠ 437 → u.1 a = t.1 a) ∧ (∀ b, b ≠ 8 → b ≠ 9 → u.1 306 b = t.1 306 b) ∧ ∀ a, a ≠ 406 → u.2 a = t.2 a
/-- a state laid out on the trial floor -/
theorem wi_pl {N n s : Nat} {t m : St} (hn : n ≤ 16) (hB : BK0 t m) (hC : CIk t) (hFL : FLr 1 t) (hR : ROWr n t m s) (hs : s < 2000) (h37 : m.1 200 37 = n) (h54 : m.1 200 54 = 0) (hv : inR (t.1 306 9 + 1)) (hN : 100 ≤ N) :
    ∃ t1 u : St, f_X9_unpack N s n t = some t1 ∧ f_X3_place N 1 437 16 n t1 = some u ∧ FL1 n s u m ∧ SPl t u ∧ u.1 306 9 = t.1 306 9 + 1 := by
  obtain ⟨t1, a1, a2, a3, a4⟩ := h_unpack (N := N) (C := stCo m s) hn hs hR.sm hR.2.2 hN
  obtain ⟨X1, Y1, W1, n1, hV1, hF1⟩ := hFL
  have hFt : FH 1 t1 X1 Y1 W1 n1 := by
    unfold FH at hF1 ⊢
    rw [a2 (305 + 1) (by omega), a2 (390 + 10 * 1) (by omega), a2 (391 + 10 * 1) (by omega), a2 (392 + 10 * 1) (by omega), a2 (397 + 10 * 1) (by omega)]
    exact hF1
  obtain ⟨u, p1, p2, p3, p4, p5, p6⟩ := h_place (N := N) (o := 1) (n := n) (n1 := n1) (q0 := 437) (t := t1) (X := stX m s) (Y := stY m s) (W := stW m s) (by omega) hV1 hFt hR.1 (by omega) (fun d hd => by
    have h2 := hR.1.2.1 d hd
    have h3 := cd_sp h2.1 h2.2.1 h2.2.2
    have h4 := cdZ_rng h2.1 h2.2.1 h2.2.2
    rw [a3 d hd]
    unfold stCo
    omega) hN
  have hB1 : EVb t1 m := by
    obtain ⟨c1, c2, c3⟩ := hB.eb hC
    refine ⟨c1.ch (fun x hx => a2 x (by omega)) (by rw [a4]), by rw [a2 312 (by omega)]; exact c2, fun f hf => ?_⟩
    obtain ⟨k, k1, k2⟩ := c3 f hf
    refine ⟨k, k1, ?_⟩
    unfold fhO
    rw [a2 350 (by omega), a2 351 (by omega), a2 352 (by omega), a2 353 (by omega)]
    exact k2
  have e9 : t1.1 (305 + 1) 9 = t.1 306 9 := by rw [a2 (305 + 1) (by omega)]
  have q200 : (pA (pA (pA m 38 (stX m s)) 39 (stY m s)) 40 (stW m s)).1 200 = m.1 200 := by rw [pA_ne (by decide), pA_ne (by decide), pA_ne (by decide)]
  have hw : ∀ d, d < n → (pA (pA (pA m 38 (stX m s)) 39 (stY m s)) 40 (stW m s)).1 38 d = stX m s d ∧ (pA (pA (pA m 38 (stX m s)) 39 (stY m s)) 40 (stW m s)).1 39 d = stY m s d ∧ (pA (pA (pA m 38 (stX m s)) 39 (stY m s)) 40 (stW m s)).1 40 d = stW m s d := fun d _ => ⟨by rw [pA_ne (by decide), pA_ne (by decide), pA_at], by rw [pA_ne (by decide), pA_at], by rw [pA_at]⟩
  have hb : ∀ a, 18 ≤ a → a ≤ 22 → (pA (pA (pA m 38 (stX m s)) 39 (stY m s)) 40 (stW m s)).1 a = m.1 a := fun a z1 z2 => by rw [pA_ne (by omega), pA_ne (by omega), pA_ne (by omega)]
  refine ⟨t1, u, a1, by rw [place16 (by omega) hn]; exact p1, ⟨_, hB1.pv (by omega) hR.1 p2 p3 p4 p5 (by rw [e9]; exact hv) p6 hw (by rw [q200]; exact h37) ?_ hb (by rw [q200]), hw, hb, by rw [q200]⟩, ⟨fun a z1 z2 z3 => ?_, fun b z1 z2 => ?_, fun a z => ?_⟩, by rw [show (306 : Nat) = 305 + 1 from rfl, p5, e9]⟩
  · unfold hGd
    rw [q200, h54]
    omega
  · rw [p6.1 a (by omega) (by omega) (by omega) (by omega) (by omega) (by omega), a2 a z3]
  · rw [show (306 : Nat) = 305 + 1 from rfl, p6.2.1 b z1 z2, a2 (305 + 1) (by omega)]
  · rw [p6.2.2 a (by omega), a4]
/-- what exploring leaves of the hall -/
def SHg (t u : St) : Prop := (∀ x, x ≠ 304 → x ≠ 306 → x ≠ 310 → x ≠ 311 → (x < 372 ∨ 383 < x) → (x < 400 ∨ 407 < x) → x ≠ 431 → x ≠ 432 → x ≠ 433 → x ≠ 437 → u.1 x = t.1 x) ∧ (∀ b, b < 11 → u.1 304 b = t.1 304 b) ∧ (∀ b, b ≠ 8 → b ≠ 9 → u.1 306 b = t.1 306 b) ∧ (∀ y, y ≠ 11 → y ≠ 13 → u.1 310 y = t.1 310 y) ∧ (∀ b, b ≠ 3 → b ≠ 4 → b ≠ 9 → u.1 311 b = t.1 311 b) ∧ (∀ x, x ≠ 384 → x ≠ 370 → x ≠ 371 → x ≠ 311 → x ≠ 406 → x ≠ 430 → x ≠ 436 → u.2 x = t.2 x)
theorem SHg.rf {t : St} : SHg t t := ⟨fun _ _ _ _ _ _ _ _ _ _ _ => rfl, fun _ _ => rfl, fun _ _ _ => rfl, fun _ _ _ => rfl, fun _ _ _ _ => rfl, fun _ _ _ _ _ _ _ _ => rfl⟩
theorem SHg.tr {t u v : St} (h : SHg t u) (g : SHg u v) : SHg t v := ⟨fun x h1 h2 h3 h4 h5 h6 h7 h8 h9 h10 => (g.1 x h1 h2 h3 h4 h5 h6 h7 h8 h9 h10).trans (h.1 x h1 h2 h3 h4 h5 h6 h7 h8 h9 h10), fun b hb => (g.2.1 b hb).trans (h.2.1 b hb), fun b h1 h2 => (g.2.2.1 b h1 h2).trans (h.2.2.1 b h1 h2), fun y h1 h2 => (g.2.2.2.1 y h1 h2).trans (h.2.2.2.1 y h1 h2), fun b h1 h2 h3 => (g.2.2.2.2.1 b h1 h2 h3).trans (h.2.2.2.2.1 b h1 h2 h3), fun x h1 h2 h3 h4 h5 h6 h7 => (g.2.2.2.2.2 x h1 h2 h3 h4 h5 h6 h7).trans (h.2.2.2.2.2 x h1 h2 h3 h4 h5 h6 h7)⟩
theorem SHf.g {t u : St} (h : SHf t u) : SHg t u := ⟨fun x h1 _ h3 h4 h5 _ h7 h8 _ _ => h.1 x h1 h3 h4 h5 h7 h8, h.2.1, fun b _ _ => by rw [h.1 306 (by decide) (by decide) (by decide) (by decide) (by decide) (by decide)], h.2.2.1, h.2.2.2.1, fun x h1 h2 h3 h4 _ h6 h7 => h.2.2.2.2 x h1 h2 h3 h4 h6 h7⟩
theorem SPl.g {t u : St} (h : SPl t u) : SHg t u := ⟨fun x _ h2 _ _ _ h6 _ _ _ h10 => h.1 x h2 h6 h10, fun b _ => by rw [h.1 304 (by decide) (by decide) (by decide)], h.2.1, fun y _ _ => by rw [h.1 310 (by decide) (by decide) (by decide)], fun b _ _ _ => by rw [h.1 311 (by decide) (by decide) (by decide)], fun x _ _ _ _ h5 _ _ => h.2.2 x h5⟩
theorem BK0.sg {t u m v : St} (hB : BK0 t m) (g : SHg t u) (g2 : SMf m v) : BK0 u v := by
  have f : ∀ x, (x = 302 ∨ (312 ≤ x ∧ x ≤ 314) ∨ (350 ≤ x ∧ x ≤ 363)) → u.1 x = t.1 x := fun x hx => g.1 x (by omega) (by omega) (by omega) (by omega) (by omega) (by omega) (by omega) (by omega) (by omega) (by omega)
  have e : ∀ b, b < 42 → v.1 200 b = m.1 200 b := fun b hb => g2.2.1 b (by omega) (by omega) (by omega) (by omega) (by omega) (by omega) (by omega) (by omega) (by omega)
  exact hB.mv (fun x y hx _ => by rw [f x hx]) (fun x y hx _ => by rw [g2.1 x (by omega) (by omega) (by omega) (by omega) (by omega) (by omega)]) (fun s x hs _ => by rw [g.2.2.2.2.2 (340 + s) (by omega) (by omega) (by omega) (by omega) (by omega) (by omega) (by omega)]) ⟨by rw [f 312 (by omega)], by rw [f 313 (by omega)], by rw [f 314 (by omega)]⟩ ⟨by rw [f 302 (by omega)], by rw [f 302 (by omega)], by rw [f 302 (by omega)]⟩ ⟨e 13 (by omega), e 14 (by omega), e 15 (by omega), e 16 (by omega), e 17 (by omega), e 33 (by omega)⟩
/-- a search under way, some cells of the hall changed that it does not look at -/
theorem WDr.sg {n w S e : Nat} {pl : Nat → Nat} {t u m : St} (h : WDr n w S e pl t m) (g : SHg t u) (e1 : u.1 304 11 = t.1 304 11) (e2 : u.1 378 = t.1 378) (e3 : u.1 431 = t.1 431) (e4 : u.2 430 = t.2 430) (e5 : u.1 310 11 = t.1 310 11 ∧ u.1 310 13 = t.1 310 13) : WDr n w S e pl u m := by
  obtain ⟨⟨h1, h2, h3⟩, ⟨h4, h5⟩, h6⟩ := h
  exact ⟨⟨h1.sg g SMf.rf, h2.f e1 e2, h3.fr e3 e4 e5 rfl ⟨rfl, rfl, rfl⟩ ⟨rfl, rfl, rfl⟩⟩, ⟨by rw [g.2.2.2.1 12 (by decide) (by decide)]; exact h4, h5⟩, h6⟩
/-- where the steps lead, and from where each state came -/
def LVr (w l S0 S Y : Nat) (t m : St) : Prop := (∀ y, y < Y → y % 32 < w → t.1 432 y = m.1 94 y ∧ (m.1 94 y = -1 ∨ (0 ≤ m.1 94 y ∧ m.1 94 y < S))) ∧ (∀ z : Nat, 1 ≤ z → z < S → ∃ y, y < Y ∧ y % 32 < w ∧ m.1 94 y = z ∧ m.1 93 z = m.1 93 (y / 32) + 1) ∧ (∀ z, S0 ≤ z → z < S → m.1 93 z = ((l + 1 : Nat) : Int)) ∧ S0 ≤ S
theorem LVr.t {w l S0 S Y : Nat} {t u m : St} (h : LVr w l S0 S Y t m) (e : u.1 432 = t.1 432) : LVr w l S0 S Y u m := by
  unfold LVr
  rw [e]
  exact h
theorem LVr.one {w l S0 S S2 s x : Nat} {t u m v : St} (h : LVr w l S0 S (32 * s + x) t m) (hs : s < S0) (hx : x < w) (hw : w ≤ 32) (hl : m.1 93 s = l) (e1 : ∀ y, y ≠ 32 * s + x → u.1 432 y = t.1 432 y) (e2 : ∀ y, y ≠ 32 * s + x → v.1 94 y = m.1 94 y) (hS : S ≤ S2) (a1 : u.1 432 (32 * s + x) = v.1 94 (32 * s + x) ∧ (v.1 94 (32 * s + x) = -1 ∨ (0 ≤ v.1 94 (32 * s + x) ∧ v.1 94 (32 * s + x) < S2))) (a2 : ∀ z, z < S → v.1 93 z = m.1 93 z) (a3 : ∀ z, S ≤ z → z < S2 → v.1 93 z = ((l + 1 : Nat) : Int) ∧ v.1 94 (32 * s + x) = z) : LVr w l S0 S2 (32 * s + (x + 1)) u v := by
  obtain ⟨h1, h2, h3, h4⟩ := h
  refine ⟨fun y hy hw2 => ?_, fun z hz1 hz2 => ?_, fun z hz1 hz2 => ?_, by omega⟩
  · by_cases hyx : y = 32 * s + x
    · rw [hyx]; exact a1
    · rw [e1 y hyx, e2 y hyx]
      have := h1 y (by omega) hw2
      exact ⟨this.1, this.2.imp id (fun h => ⟨h.1, by omega⟩)⟩
  · by_cases hzS : z < S
    · obtain ⟨y, y1, y2, y3, y4⟩ := h2 z hz1 hzS
      refine ⟨y, by omega, y2, by rw [e2 y (by omega)]; exact y3, ?_⟩
      rw [a2 z hzS, a2 (y / 32) (by omega)]
      exact y4
    · have := a3 z (by omega) hz2
      refine ⟨32 * s + x, by omega, by omega, this.2, ?_⟩
      rw [this.1, show (32 * s + x) / 32 = s by omega, a2 s (by omega), hl]
      omega
  · by_cases hzS : z < S
    · rw [a2 z hzS]; exact h3 z hz1 hzS
    · exact (a3 z (by omega) hz2).1
set_option maxHeartbeats 1000000 in
/-- all steps from one state -/
theorem wi_lp {N n w l s S0 : Nat} (hN : 100000 ≤ N) (hn : 1 ≤ n ∧ n ≤ 16) (hs : s < S0) : ∀ (d x S e : Nat) (pl : Nat → Nat) (t m : St), x + d = w → WDr n w S e pl t m → FL1 n s t m → LVr w l S0 S (32 * s + x) t m → m.1 93 s = l → t.1 304 11 + 64 * d ≤ 1900000000 →
    ∃ (u v : St) (S2 e2 : Nat) (pl2 : Nat → Nat), SHf t u ∧ SMf m v ∧ CIk u ∧ u.1 304 11 ≤ t.1 304 11 + 64 * d ∧ WDr n w S2 e2 pl2 u v ∧ S ≤ S2 ∧ e2 + S = e + S2 ∧
      ((∀ K K' : St → Option (Int × St), ∀ q r : Nat, f_X9_widen_L40 N K n s (q + d + 1) x t = some (0, u) ∧ f_X12_levelBehind_L28 N K' l s (r + d + 1) x m = some (0, v)) ∨
       ((∀ K K' : St → Option (Int × St), ∀ q r : Nat, f_X9_widen_L40 N K n s (q + d + 1) x t = K u ∧ f_X12_levelBehind_L28 N K' l s (r + d + 1) x m = K' v) ∧ LVr w l S0 S2 (32 * s + w) u v ∧ (∀ z, z < S → v.1 93 z = m.1 93 z) ∧ ∀ y, y < 16 * S → v.1 92 y = m.1 92 y)) := by
  intro d
  induction d with
  | zero =>
    intro x S e pl t m hx hW hL hV hl hb
    have hxw : x = w := by omega
    subst hxw
    have w1 := hW.2.1
    have h32 : x ≤ 32 := by obtain ⟨_, _, n9, _⟩ := hW.1.1.2.1; omega
    obtain ⟨mm, hE, _⟩ := hL
    refine ⟨t, m, S, e, pl, SHf.rf, SMf.rf, hE.2.2.2.2.2.1, by omega, hW, Nat.le_refl _, rfl, Or.inr ⟨fun K K' q r => ⟨?_, ?_⟩, hV, fun _ _ => rfl, fun _ _ => rfl⟩⟩
    · unfold f_X9_widen_L40
      simp only [lt1_k, jn1_k]
      rw [w1.1, cmpI_ok (by omega), if_neg (by omega)]
    · unfold f_X12_levelBehind_L28
      simp only [lt1_k, jn1_k]
      rw [w1.2.1, cmpI_ok (by omega), if_neg (by omega)]
  | succ d ih =>
    intro x S e pl t m hx hW hL hV hl hb
    have h32 : w ≤ 32 := by obtain ⟨_, _, n9, _⟩ := hW.1.1.2.1; have := hW.2.1; omega
    obtain ⟨u, v, g1, g2, g3, g4, ⟨g5, g6⟩, g7⟩ := wi_one (N := N) (l := l) (x := x) hN hn hW hL (by have := hV.2.2.2; omega) (by omega) (by omega)
    rcases g7 with ⟨r1, r2⟩ | ⟨r1, S2, e2, pl2, r2, r3, r4, r5, r6, r7, r8⟩
    · exact ⟨u, v, S, e, pl, g1, g2, g3, by omega, r2, Nat.le_refl _, rfl, Or.inl (fun K K' q r => r1 K K' (q + (d + 1)) (r + (d + 1)))⟩
    · have hV2 := hV.one hs (by omega) h32 hl g5 g6 r4.1 r5 r6 r7
      obtain ⟨u3, v3, S3, e3, pl3, k1, k2, k3, k4, k5, k6, k7, k8⟩ := ih (x + 1) S2 e2 pl2 u v (by omega) r2 r3 hV2 (by rw [r6 s (by have := hV.2.2.2; omega)]; exact hl) (by omega)
      refine ⟨u3, v3, S3, e3, pl3, g1.tr k1, g2.tr k2, k3, by omega, k5, by omega, by omega, ?_⟩
      rcases k8 with k8 | ⟨k8, k9, k10, k11⟩
      · left
        intro K K' q r
        have a := r1 K K' (q + d + 1) (r + d + 1)
        have b := k8 K K' q r
        exact ⟨a.1.trans b.1, a.2.trans b.2⟩
      · right
        refine ⟨fun K K' q r => ?_, k9, fun z hz => by rw [k10 z (by omega), r6 z hz], fun y hy => by rw [k11 y (by omega), r8 y hy]⟩
        have a := r1 K K' (q + d + 1) (r + d + 1)
        have b := k8 K K' q r
        exact ⟨a.1.trans b.1, a.2.trans b.2⟩
