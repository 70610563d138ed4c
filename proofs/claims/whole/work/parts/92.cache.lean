/-! what was found is kept: the hall's cache -/
theorem fmw_cong {P Q : Nat → Bool} : ∀ (d w : Nat), (∀ k, w ≤ k → k < w + d → P k = Q k) → fmw P d w = fmw Q d w := by
  intro d
  induction d with
  | zero => intro w _; rfl
  | succ d ih =>
    intro w h
    unfold fmw
    rw [h w (Nat.le_refl _) (by omega), ih (w + 1) (fun k h1 h2 => h k (by omega) (by omega))]
theorem who9_cong {X Y X2 Y2 : Nat → Int} {n : Nat} {px py : Int} (h : ∀ d, d < n → X d = X2 d ∧ Y d = Y2 d) : who9 X Y n px py = who9 X2 Y2 n px py := by
  unfold who9
  refine fmw_cong _ _ (fun k _ h2 => ?_)
  have := h k (by omega)
  rw [this.1, this.2]
theorem ins9_L {L M : Nat → Int → Bool} {d : Nat} : ∀ (i : Nat) (A : Nat → Int), (∀ j, j < i → L d (A j) = M d (A j)) → ins9 L d i A = ins9 M d i A := by
  intro i
  induction i with
  | zero => intro A _; rfl
  | succ i ih =>
    intro A h
    unfold ins9
    rw [h i (by omega), ih _ (fun j hj => by rw [fup_ne (by omega)]; exact h j (by omega))]
theorem ord9_cong {X Y X2 Y2 : Nat → Int} {n : Nat} (h : ∀ d, d < n → X d = X2 d ∧ Y d = Y2 d) : ord9 X Y n = ord9 X2 Y2 n := by
  unfold ord9
  have : ∀ d, d ≤ n → srt9 (lt9 X Y) (fun _ => 0) d = srt9 (lt9 X2 Y2) (fun _ => 0) d := by
    intro d
    induction d with
    | zero => intro _; rfl
    | succ d ih =>
      intro hd
      unfold srt9
      rw [ih (by omega)]
      refine ins9_L d _ (fun j hj => ?_)
      obtain ⟨e, h1, h2⟩ := srt9_val (L := lt9 X2 Y2) (A := fun _ => 0) d j hj
      rw [h2]
      unfold lt9
      rw [Int.toNat_natCast, (h d (by omega)).1, (h d (by omega)).2, (h e (by omega)).1, (h e (by omega)).2]
  exact this n (Nat.le_refl _)
/-- two models with the same floor and the same form -/
def agr (M m : St) (n f k : Nat) : Prop := M.1 200 37 = m.1 200 37 ∧ (∀ d, d < n → M.1 38 d = m.1 38 d ∧ M.1 39 d = m.1 39 d ∧ M.1 40 d = m.1 40 d) ∧ ∀ j, j < k → M.1 19 (8 * f + j) = m.1 19 (8 * f + j) ∧ M.1 20 (8 * f + j) = m.1 20 (8 * f + j) ∧ M.1 21 (8 * f + j) = m.1 21 (8 * f + j) ∧ M.1 22 (8 * f + j) = m.1 22 (8 * f + j)
theorem agr_w {M m : St} {n f k d c j : Nat} (h : agr M m n f k) (hF : fmF m n) (hd : d < n) (hc : c < 4 * k) (hj : j < k) : wsm M f d c j = wsm m f d c j := by
  unfold wsm cpx cpy
  have h1 := h.2.2 (c / 4) (by omega)
  have h2 := h.2.2 j hj
  have h3 := h.2.1 d hd
  rw [h.1, h1.1, h1.2.1, h2.1, h2.2.1, h3.1, h3.2.1]
  refine who9_cong (fun e he => ?_)
  have hn := hF.1
  have := h.2.1 e (by omega)
  exact ⟨this.1, this.2.1⟩
theorem agr_ok {M m : St} {n f k d c j : Nat} {s : Int64} (h : agr M m n f k) (hF : fmF m n) (hd : d < n) (hc : c < 4 * k) (hj : j < k) : okb M f d c s j = okb m f d c s j := by
  have hw := agr_w h hF hd hc hj
  have h2 := h.2.2 j hj
  have hr := wsm_rng (f := f) (d := d) (c := c) (j := j) hF
  unfold okb
  rw [hw, h2.2.2.1, h2.2.2.2]
  by_cases h0 : 0 ≤ wsm m f d c j
  · rw [(h.2.1 (wsm m f d c j).toNat (by omega)).2.2]
  · rw [decide_eq_false h0]; rfl
theorem agr_fit {M m : St} {n f k d c : Nat} {s : Int64} (h : agr M m n f k) (hF : fmF m n) (hd : d < n) (hc : c < 4 * k) : ∀ j, j ≤ k → fitb M f d c s j = fitb m f d c s j := by
  intro j
  induction j with
  | zero => intro _; rfl
  | succ j ih => intro hj; unfold fitb; rw [ih (by omega), agr_ok h hF hd hc (by omega)]
theorem mk9_cong {w v : Nat → Int} : ∀ k, (∀ j, j < k → w j = v j) → mk9 w k = mk9 v k := by
  intro k
  induction k with
  | zero => intro _; rfl
  | succ k ih => intro h; unfold mk9; rw [ih (fun j hj => h j (by omega)), h k (by omega)]
theorem mkf_cong {w v F : Nat → Int} : ∀ k, (∀ j, j < k → w j = v j) → mkf w F k = mkf v F k := by
  intro k
  induction k with
  | zero => intro _; rfl
  | succ k ih => intro h; unfold mkf; rw [ih (fun j hj => h j (by omega)), h k (by omega)]
theorem agr_od {M m : St} {n f k : Nat} (h : agr M m n f k) : odM M n = odM m n := by
  funext i
  unfold odM
  rw [ord9_cong (fun d hd => ⟨(h.2.1 d hd).1, (h.2.1 d hd).2.1⟩)]
theorem agr_gc {M m : St} {n f k d : Nat} {s : Int64} (h : agr M m n f k) (hF : fmF m n) (hd : d < n) : gc9 M f k s d = gc9 m f k s d := by
  unfold gc9
  split
  · refine fmw_cong _ _ (fun c h1 h2 => agr_fit h hF hd (by omega) k (Nat.le_refl _))
  · rfl
theorem agr_gm {M m : St} {n f k : Nat} {s : Int64} (h : agr M m n f k) (hF : fmF m n) : ∀ i, i ≤ n → gfr M n f k s i = gfr m n f k s i ∧ gmk M n f k s i = gmk m n f k s i := by
  intro i
  induction i with
  | zero => intro _; exact ⟨rfl, rfl⟩
  | succ i ih =>
    intro hi
    have ih := ih (by omega)
    have hd := (odM_lt (m := m) (n := n) (i := i) (by omega)).1
    unfold gfr gmk
    rw [ih.1, ih.2, agr_od h, agr_gc h hF hd]
    by_cases hg : gc9 m f k (gfr m n f k s i) (odM m n i) = -1
    · simp only [if_pos hg, and_self]
    · simp only [if_neg hg]
      obtain ⟨hbd, c, hc1, hc2, hc3⟩ := gc9_fit hg
      rw [hc1, Int.toNat_natCast]
      rw [mk9_cong k (fun j hj => agr_w h hF hd hc2 hj), mkf_cong k (fun j hj => agr_w h hF hd hc2 hj)]
      exact ⟨rfl, rfl⟩
theorem agr_of {o : Nat} {t M m : St} {n1 n k1 k f : Nat} (h1 : hmF o t M n1) (h2 : hmF o t m n) (h3 : fhO t M f k1) (h4 : fhO t m f k) (o1 : fmO M f k1) (o2 : fmO m f k) : n1 = n ∧ k1 = k ∧ agr M m n f k := by
  have hn : n1 = n := by have := h1.2.1; have := h2.2.1; omega
  have hk : k1 = k := by have := h3.1; have := h4.1; omega
  subst hn; subst hk
  refine ⟨rfl, rfl, by rw [h1.1.1, h2.1.1], fun d hd => ?_, fun j hj => ?_⟩
  · have a := h1.2.2.1 d hd
    have b := h2.2.2.1 d hd
    exact ⟨by rw [← a.1, b.1], by rw [← a.2.1, b.2.1], by rw [← a.2.2, b.2.2]⟩
  · have a := h3.2 j hj
    have b := h4.2 j hj
    have a0 := a.1 0 (by decide)
    have b0 := b.1 0 (by decide)
    have oa := o1.2.2.2.2.1 j hj
    have ob := o2.2.2.2.2.1 j hj
    have e1 : tX9 (M.1 19 (8 * f + j)) (M.1 20 (8 * f + j)) ((0 : Nat) : Int) = M.1 19 (8 * f + j) := rfl
    have e2 : tX9 (m.1 19 (8 * f + j)) (m.1 20 (8 * f + j)) ((0 : Nat) : Int) = m.1 19 (8 * f + j) := rfl
    have e3 : tY9 (M.1 19 (8 * f + j)) (M.1 20 (8 * f + j)) ((0 : Nat) : Int) = M.1 20 (8 * f + j) := rfl
    have e4 : tY9 (m.1 19 (8 * f + j)) (m.1 20 (8 * f + j)) ((0 : Nat) : Int) = m.1 20 (8 * f + j) := rfl
    rw [e1, e3] at a0
    rw [e2, e4] at b0
    have hl := a.2.symm.trans b.2
    refine ⟨by rw [← a0.1, b0.1], by rw [← a0.2, b0.2], ?_, ?_⟩
    · revert hl; split <;> split <;> omega
    · revert hl; split <;> split <;> omega
/-- the cache -/
def CIk (t : St) : Prop := (t.1 311 3 = 0 ∨ t.1 311 3 = 306 ∨ t.1 311 3 = 307) ∧ inR (t.1 311 4) ∧ (∀ f, f < 40 → inR (t.1 381 f)) ∧ ∀ o : Nat, o < 2 → t.1 311 3 = 306 + (o : Int) → t.1 311 4 ≤ t.1 (305 + o) 9 ∧ (t.1 (305 + o) 9 = t.1 311 4 → ∀ f, f < 40 → t.1 381 f ≠ 0 →
  (f : Int) < t.1 312 2 ∧ ∃ (M : St) (n k : Nat), hmF o t M n ∧ fmO M f k ∧ fhO t M f k ∧ ∀ e, e < n → t.1 380 (64 * f + e) = gmk M n f k (t.2 311 5) n e)
theorem h_fillK {q0 n0 : Nat} {t : St} (hn : n0 ≤ 100000) (K : St → Option St) : ∀ (i d q : Nat) (F : Nat → Int), d + i = n0 → i < q → (∀ x, x < d → F x = 0) →
    ∃ G : Nat → Int, f_J7_fill_031fb_L5 q0 n0 K 0 (n0 : Int) q d (pA t q0 F) = K (pA t q0 G) ∧ ∀ x, x < n0 → G x = 0 := by
  intro i
  induction i with
  | zero =>
    intro d q F h1 h2 h3
    obtain ⟨q, rfl⟩ : ∃ k, q = k + 1 := ⟨q - 1, by omega⟩
    have : d = n0 := by omega
    subst this
    refine ⟨F, ?_, h3⟩
    unfold f_J7_fill_031fb_L5
    rw [cmpI_ok (by omega), if_neg (by omega)]
  | succ i ih =>
    intro d q F h1 h2 h3
    obtain ⟨q, rfl⟩ : ∃ k, q = k + 1 := ⟨q - 1, by omega⟩
    unfold f_J7_fill_031fb_L5
    have e2 : ((d : Int) + 1) = ((d + 1 : Nat) : Int) := by omega
    rw [cmpI_ok (by omega), if_pos (by omega), ixI_ok (by omega), lt1_k, Int.toNat_natCast, pA_I, show b8 0 = 0 from rfl, e2]
    refine ih (d + 1) q _ (by omega) (by omega) (fun x hx => ?_)
    by_cases hxd : x = d
    · rw [hxd, fup_at]
    · rw [fup_ne hxd]; exact h3 x (by omega)
theorem h_find {N o : Nat} {t m : St} {n f k : Nat} {s : Int64} (ho : o < 2) (hH : hmF o t m n) (hor : hoO o t m n) (hO : fmO m f k) (hf : fhO t m f k) (hff : (f : Int) < t.1 312 2) (hC : CIk t) (hv : inR (t.1 (305 + o) 9)) (hN : 70 ≤ N) :
    ∃ u : St, f_X2_findGreedy N o f s t = some u ∧ hfr t u ∧ u.2 384 = t.2 384 ∧ u.2 370 = t.2 370 ∧ CIk u ∧ ∀ e, e < n → u.1 380 (64 * f + e) = gmk m n f k s n e := by
  have h64 := hH.1.2.1
  have hf40 := hO.1
  have hk8 := hO.2.2.2.1
  obtain ⟨c1, c2, c3, c4⟩ := hC
  have kx : ∀ X : Option St, ixI (f : Int) 40 X = X := fun X => ixI_ok (by omega)
  -- from a state whose cache is of this floor, version, scope
  have main : ∀ t2 : St, hfr t t2 → t2.2 384 = t.2 384 → t2.2 370 = t.2 370 → CIk t2 → t2.1 311 3 = 306 + (o : Int) → t2.1 311 4 = t2.1 (305 + o) 9 → t2.2 311 5 = s →
      ∃ u : St, (cmpI (t2.1 381 f) 0 (if t2.1 381 f = 0 then f_X2_findGreedy_L74 o (fun (t13 : St) => f_X2_findGreedy_L121 N o (fun (t54 : St) => some t54) f (4 * t13.1 350 f) N s 0 t13) f N 0 (pI t2 381 f (b8 1)) else some t2)) = some u ∧ hfr t u ∧ u.2 384 = t.2 384 ∧ u.2 370 = t.2 370 ∧ CIk u ∧ ∀ e, e < n → u.1 380 (64 * f + e) = gmk m n f k s n e := by
    intro t2 g1 g2 g3 hC2 g4 g5 g6
    obtain ⟨d1, d2, d3, d4⟩ := id hC2
    rw [cmpI_ok ⟨d3 f hf40, by decide, by decide⟩]
    by_cases hk0 : t2.1 381 f = 0
    · rw [if_pos hk0]
      have hfr3 : hfr t2 (pI t2 381 f (b8 1)) := hfr.I (by omega)
      have hfr3t := g1.tr hfr3
      have hL := h_fill (o := o) (f := f) (n := n) (t := pI t2 381 f (b8 1)) (by rw [hfr3t.1 (305 + o) (by omega) (by omega) (by omega) (by omega) (by omega)]; exact hH.2.1) h64 ho hf40 ((pI t2 381 f (b8 1)).1 380) (fun (t13 : St) => f_X2_findGreedy_L121 N o (fun (t54 : St) => some t54) f (4 * t13.1 350 f) N s 0 t13) n 0 N (by omega) (by omega)
      rw [show ffl ((pI t2 381 f (b8 1)).1 380) (64 * f) 0 = (pI t2 381 f (b8 1)).1 380 from rfl, pA_self, show ((0 : Nat) : Int) = 0 from rfl] at hL
      rw [hL, pA_ne (by decide)]
      have h350 : (pI t2 381 f (b8 1)).1 350 f = k := by rw [hfr3t.1 350 (by decide) (by decide) (by decide) (by decide) (by decide)]; exact hf.1
      rw [h350, show (4 * (k : Int)) = ((4 * k : Nat) : Int) by omega]
      obtain ⟨G, b1, b2, b3⟩ := h_greedyL (N := N) (s := s) (t := pI t2 381 f (b8 1)) ho (hH.fr hfr3t ho) (hor.fr hfr3t ho) hO (hf.fr hfr3t) hN (fun (t54 : St) => some t54) n 0 N (ffl ((pI t2 381 f (b8 1)).1 380) (64 * f) n) (by omega) (by omega) (fun e he => by rw [ffl_at n e he]; rfl)
      refine ⟨_, b1, hfr3t.tr (hfr.A (by omega)), g2, g3, ?_, fun e he => by rw [pA_at]; exact b2 e he⟩
      have u3 : ∀ a, a ≠ 380 → a ≠ 381 → (pA (pI t2 381 f (b8 1)) 380 G).1 a = t2.1 a := fun a h1 h2 => by rw [pA_ne h1, pI_ne h2]
      have u381 : ∀ x, (pA (pI t2 381 f (b8 1)) 380 G).1 381 x = if x = f then 1 else t2.1 381 x := by
        intro x
        rw [pA_ne (by decide)]
        by_cases hx : x = f
        · rw [if_pos hx, hx, pI_at]; rfl
        · rw [if_neg hx, pI_nf hx]
      refine ⟨by rw [u3 311 (by decide) (by decide)]; exact d1, by rw [u3 311 (by decide) (by decide)]; exact d2, fun x hx => ?_, fun o2 ho2 h9 => ?_⟩
      · rw [u381 x]; split
        · exact ⟨by decide, by decide⟩
        · exact d3 x hx
      · rw [u3 311 (by decide) (by decide)] at h9 ⊢
        have : o2 = o := by omega
        subst this
        rw [u3 (305 + o2) (by omega) (by omega)]
        refine ⟨(d4 o2 ho2 h9).1, fun h10 x hx h11 => ?_⟩
        rw [u3 312 (by decide) (by decide)]
        rw [u381 x] at h11
        by_cases hxf : x = f
        · subst hxf
          refine ⟨by rw [g1.1 312 (by decide) (by decide) (by decide) (by decide) (by decide)]; exact hff, m, n, k, hH.fr (hfr3t.tr (hfr.A (by omega))) ho, hO, hf.fr (hfr3t.tr (hfr.A (by omega))), fun e he => ?_⟩
          rw [pA_at, b2 e he]
          show _ = gmk m n x k (t2.2 311 5) n e
          rw [g6]
        · rw [if_neg hxf] at h11
          obtain ⟨q1, M, n1, k1, q2, q3, q4, q5⟩ := (d4 o2 ho2 h9).2 h10 x hx h11
          have hfr4 : hfr t2 (pA (pI t2 381 f (b8 1)) 380 G) := hfr3.tr (hfr.A (by omega))
          refine ⟨q1, M, n1, k1, q2.fr hfr4 ho2, q3, q4.fr hfr4, fun e he => ?_⟩
          have hn164 := q2.1.2.1
          rw [pA_at, b3 (64 * x + e) (by omega), ffl_no n (64 * x + e) (by omega), pI_ne (by decide)]
          exact q5 e he
    · rw [if_neg hk0]
      refine ⟨t2, rfl, g1, g2, g3, hC2, fun e he => ?_⟩
      obtain ⟨q1, M, n1, k1, q2, q3, q4, q5⟩ := (d4 o ho g4).2 g5.symm f hf40 hk0
      obtain ⟨e1, e2, e3⟩ := agr_of q2 (hH.fr g1 ho) q4 (hf.fr g1) q3 hO
      subst e1; subst e2
      rw [q5 e he, g6, (agr_gm e3 hH.1 n1 (Nat.le_refl _)).2]
  unfold f_X2_findGreedy
  simp only [lt1_k, jn1_k, kx, Int.toNat_natCast]
  rw [if_pos (by omega)]
  -- a new one
  have anew : ∃ u : St, (bdV (f_J7_fill_031fb N 381 40 0 t) fun t57 => cmpI ((pL (pI (pI t57 311 3 (((305 + o : Nat) : Int) + 1)) 311 4 ((pI t57 311 3 (((305 + o : Nat) : Int) + 1)).1 (305 + o) 9)) 311 5 s).1 381 f) 0 (if (pL (pI (pI t57 311 3 (((305 + o : Nat) : Int) + 1)) 311 4 ((pI t57 311 3 (((305 + o : Nat) : Int) + 1)).1 (305 + o) 9)) 311 5 s).1 381 f = 0 then f_X2_findGreedy_L74 o (fun (t13 : St) => f_X2_findGreedy_L121 N o (fun (t54 : St) => some t54) f (4 * t13.1 350 f) N s 0 t13) f N 0 (pI (pL (pI (pI t57 311 3 (((305 + o : Nat) : Int) + 1)) 311 4 ((pI t57 311 3 (((305 + o : Nat) : Int) + 1)).1 (305 + o) 9)) 311 5 s) 381 f (b8 1)) else some (pL (pI (pI t57 311 3 (((305 + o : Nat) : Int) + 1)) 311 4 ((pI t57 311 3 (((305 + o : Nat) : Int) + 1)).1 (305 + o) 9)) 311 5 s))) = some u ∧ hfr t u ∧ u.2 384 = t.2 384 ∧ u.2 370 = t.2 370 ∧ CIk u ∧ ∀ e, e < n → u.1 380 (64 * f + e) = gmk m n f k s n e := by
    unfold f_J7_fill_031fb
    obtain ⟨G, b1, b2⟩ := h_fillK (q0 := 381) (n0 := 40) (t := t) (by decide) (fun (t7 : St) => some t7) 40 0 N (t.1 381) (by omega) (by omega) (fun x hx => by omega)
    rw [pA_self, show ((0 : Nat) : Int) = 0 from rfl] at b1
    rw [b1, bdV_s]
    have hv9 : (pI (pA t 381 G) 311 3 (((305 + o : Nat) : Int) + 1)).1 (305 + o) 9 = t.1 (305 + o) 9 := by rw [pI_ne (by omega), pA_ne (by omega)]
    rw [hv9]
    have u3 : ∀ a, a ≠ 381 → a ≠ 311 → (pL (pI (pI (pA t 381 G) 311 3 (((305 + o : Nat) : Int) + 1)) 311 4 (t.1 (305 + o) 9)) 311 5 s).1 a = t.1 a := fun a h1 h2 => by rw [pL_I, pI_ne h2, pI_ne h2, pA_ne h1]
    have u3b : (pL (pI (pI (pA t 381 G) 311 3 (((305 + o : Nat) : Int) + 1)) 311 4 (t.1 (305 + o) 9)) 311 5 s).1 311 3 = 306 + (o : Int) := by rw [pL_I, pI_nf (by decide), pI_at]; omega
    have u4b : (pL (pI (pI (pA t 381 G) 311 3 (((305 + o : Nat) : Int) + 1)) 311 4 (t.1 (305 + o) 9)) 311 5 s).1 311 4 = t.1 (305 + o) 9 := by rw [pL_I, pI_at]
    have u381 : (pL (pI (pI (pA t 381 G) 311 3 (((305 + o : Nat) : Int) + 1)) 311 4 (t.1 (305 + o) 9)) 311 5 s).1 381 = G := by rw [pL_I, pI_ne (by decide), pI_ne (by decide), pA_at]
    refine main _ ?_ ?_ ?_ ?_ u3b ?_ pL_at
    · exact (((hfr.A (by omega)).tr (hfr.F (by omega))).tr (hfr.F (by omega))).tr (hfr.L (by omega))
    · rw [pL_ne (by decide)]; rfl
    · rw [pL_ne (by decide)]; rfl
    · refine ⟨by rw [u3b]; omega, by rw [u4b]; exact hv, fun x hx => by rw [u381, b2 x hx]; exact ⟨by decide, by decide⟩, fun o2 ho2 h9 => ?_⟩
      rw [u3b] at h9
      have : o2 = o := by omega
      subst this
      rw [u4b, u3 (305 + o2) (by omega) (by omega)]
      refine ⟨Int.le_refl _, fun _ x hx h11 => ?_⟩
      rw [u381, b2 x hx] at h11
      exact absurd rfl h11
    · rw [u4b, u3 (305 + o) (by omega) (by omega)]
  by_cases h1 : t.1 311 3 = (((305 + o : Nat) : Int) + 1)
  · rw [if_pos h1, cmpI_ok ⟨hv, c2⟩]
    by_cases h2 : t.1 (305 + o) 9 = t.1 311 4
    · rw [if_pos h2]
      by_cases h3 : s = t.2 311 5
      · rw [if_pos h3]
        exact main t hfr.rf rfl rfl ⟨c1, c2, c3, c4⟩ (by omega) h2.symm h3.symm
      · rw [if_neg h3]; exact anew
    · rw [if_neg h2]; exact anew
  · rw [if_neg h1]; exact anew
def ig9 (R : Nat → Int) (sl : Int) : Nat → Int64
  | 0 => 0
  | d + 1 => if 0 ≤ R d ∧ (sl < 0 ∨ sl = R d) then ig9 R sl d ||| shlL 1 (d : Int) else ig9 R sl d
theorem ig9_s {R : Nat → Int} {sl : Int} {d : Nat} : ig9 R sl (d + 1) = if 0 ≤ R d ∧ (sl < 0 ∨ sl = R d) then ig9 R sl d ||| shlL 1 (d : Int) else ig9 R sl d := rfl
theorem bq_ig {R : Nat → Int} {sl : Int} : ∀ n e : Nat, n ≤ 64 → e < 64 → (bq (ig9 R sl n) e = true ↔ e < n ∧ 0 ≤ R e ∧ (sl < 0 ∨ sl = R e)) := by
  intro n
  induction n with
  | zero => intro e _ he; unfold ig9; rw [bq_0]; constructor
            · intro h; cases h
            · intro h; omega
  | succ n ih =>
    intro e hn he
    unfold ig9
    by_cases hc : 0 ≤ R n ∧ (sl < 0 ∨ sl = R n)
    · rw [if_pos hc, bq_or, Bool.or_eq_true, ih e (by omega) he, bq_1 (by omega) he, decide_eq_true_iff]
      constructor
      · intro h
        rcases h with h | h
        · exact ⟨by omega, h.2⟩
        · subst h; exact ⟨by omega, hc⟩
      · intro h
        by_cases hen : e = n
        · exact Or.inr hen
        · exact Or.inl ⟨by omega, h.2⟩
    · rw [if_neg hc, ih e (by omega) he]
      constructor
      · intro h; exact ⟨by omega, h.2⟩
      · intro h
        by_cases hen : e = n
        · subst hen; exact absurd h.2 hc
        · exact ⟨by omega, h.2⟩
theorem h_inL {o f n : Nat} {t : St} {sl : Int} (hn : t.1 (305 + o) 8 = n) (h64 : n ≤ 64) (hf : f < 40) (hsl : inR sl) (hR : ∀ e, e < n → inR (t.1 380 (64 * f + e))) (K : Int64 → St → Option (Int64 × St)) : ∀ (i d q : Nat), d + i = n → i < q →
    f_X2_inGreedy_L6 o K f sl q (ig9 (fun e => t.1 380 (64 * f + e)) sl d) d t = K (ig9 (fun e => t.1 380 (64 * f + e)) sl n) t := by
  intro i
  induction i with
  | zero =>
    intro d q h1 h2
    obtain ⟨q, rfl⟩ : ∃ k, q = k + 1 := ⟨q - 1, by omega⟩
    have : d = n := by omega
    subst this
    unfold f_X2_inGreedy_L6
    rw [lt1_k, hn, cmpI_ok (by omega), if_neg (by omega)]
  | succ i ih =>
    intro d q h1 h2
    obtain ⟨q, rfl⟩ : ∃ k, q = k + 1 := ⟨q - 1, by omega⟩
    have hr := hR d (by omega)
    have e1 : (((f : Int) * 64) + (d : Int)).toNat = 64 * f + d := by omega
    have e2 : ((d : Int) + 1) = ((d + 1 : Nat) : Int) := by omega
    have ih2 := ih (d + 1) q (by omega) (by omega)
    rw [ig9_s] at ih2
    unfold f_X2_inGreedy_L6
    simp only [lt1_k, jn1_k, e1, e2]
    rw [hn, cmpI_ok (by omega), if_pos (by omega), ixI_ok (by omega), cmpI_ok (by omega), cmpI_ok (by omega), cmpI_ok (by omega)]
    by_cases q1 : t.1 380 (64 * f + d) < 0
    · rw [if_pos q1]
      rw [if_neg (by omega)] at ih2
      exact ih2
    · rw [if_neg q1]
      by_cases q2 : sl < 0
      · rw [if_pos q2]
        rw [if_pos (by omega)] at ih2
        exact ih2
      · rw [if_neg q2]
        by_cases q3 : sl = t.1 380 (64 * f + d)
        · rw [if_pos q3]
          rw [if_pos (by omega)] at ih2
          exact ih2
        · rw [if_neg q3]
          rw [if_neg (by omega)] at ih2
          exact ih2
/-- those in a slot of greedy copies: both sides -/
theorem h_in {N o : Nat} {u m : St} {n f k : Nat} {s : Int64} {sl : Int} (hH : hmF o u m n) (hO : fmO m f k) (hsl : sl = -1 ∨ (0 ≤ sl ∧ sl < k)) (hR : ∀ e, e < n → u.1 380 (64 * f + e) = gmk m n f k s n e) (hN : 70 ≤ N) : f_X2_inGreedy N o f sl u = some (gst m n f k s sl n, u) := by
  have h64 := hH.1.2.1
  have hf40 := hO.1
  have hk8 := hO.2.2.2.1
  have hg : ∀ e, e < n → _ := fun e he => g_inv (s := s) hH.1 hO n (Nat.le_refl _) e (by omega)
  unfold f_X2_inGreedy
  have := h_inL (o := o) (f := f) (t := u) (sl := sl) hH.2.1 h64 hf40 (by omega) (fun e he => by rw [hR e he]; have := (hg e he).1; omega) (fun (k14 : Int64) (t15 : St) => some (k14, t15)) n 0 N (by omega) (by omega)
  refine Eq.trans this ?_
  congr 2
  apply bq_ext
  intro e he
  have h1 := bq_ig (R := fun e => u.1 380 (64 * f + e)) (sl := sl) n e h64 he
  have h2 := g_inv (s := s) hH.1 hO n (Nat.le_refl _) e he
  have h3 := h2.2.2.1 sl hsl
  apply Bool.eq_iff_iff.mpr
  rw [h1, h3]
  constructor
  · intro h
    rw [hR e h.1] at h
    exact ⟨h.2.1, by omega⟩
  · intro h
    have hen := (h2.2.1 h.1).2
    rw [hR e hen]
    exact ⟨hen, h.1, by omega⟩
