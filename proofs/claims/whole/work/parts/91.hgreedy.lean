/-! the hall's greedy copies -/
/-- what finding out leaves as it is: the hall -/
def hfr (t u : St) : Prop := (∀ a, a ≠ 380 → a ≠ 381 → a ≠ 382 → a ≠ 383 → a ≠ 311 → u.1 a = t.1 a) ∧ (∀ b, b ≠ 3 → b ≠ 4 → b ≠ 9 → u.1 311 b = t.1 311 b) ∧ (∀ a, a ≠ 384 → a ≠ 370 → a ≠ 311 → u.2 a = t.2 a)
theorem hfr.rf {t : St} : hfr t t := ⟨fun _ _ _ _ _ _ => rfl, fun _ _ _ _ => rfl, fun _ _ _ _ => rfl⟩
theorem hfr.tr {t u v : St} (h : hfr t u) (g : hfr u v) : hfr t v :=
  ⟨fun a h1 h2 h3 h4 h5 => (g.1 a h1 h2 h3 h4 h5).trans (h.1 a h1 h2 h3 h4 h5), fun b h1 h2 h3 => (g.2.1 b h1 h2 h3).trans (h.2.1 b h1 h2 h3), fun a h1 h2 h3 => (g.2.2 a h1 h2 h3).trans (h.2.2 a h1 h2 h3)⟩
theorem hfr.A {t : St} {a : Nat} {F : Nat → Int} (h : a = 380 ∨ a = 381 ∨ a = 382 ∨ a = 383) : hfr t (pA t a F) :=
  ⟨fun b h1 h2 h3 h4 h5 => pA_ne (by omega), fun b _ _ _ => by rw [pA_ne (by omega)], fun _ _ _ _ => rfl⟩
theorem hfr.I {t : St} {a i : Nat} {v : Int} (h : a = 380 ∨ a = 381 ∨ a = 382 ∨ a = 383) : hfr t (pI t a i v) :=
  ⟨fun b h1 h2 h3 h4 h5 => pI_ne (by omega), fun b _ _ _ => by rw [pI_ne (by omega)], fun _ _ _ _ => rfl⟩
theorem hfr.F {t : St} {b : Nat} {v : Int} (h : b = 3 ∨ b = 4 ∨ b = 9) : hfr t (pI t 311 b v) :=
  ⟨fun a h1 h2 h3 h4 h5 => pI_ne h5, fun c _ _ _ => pI_nf (by omega), fun _ _ _ _ => rfl⟩
theorem hfr.L {t : St} {a i : Nat} {v : Int64} (h : a = 384 ∨ a = 370 ∨ a = 311) : hfr t (pL t a i v) :=
  ⟨fun _ _ _ _ _ _ => rfl, fun _ _ _ _ => rfl, fun b h1 h2 h3 => pL_ne (by omega)⟩
/-- the hall's order -/
def hoO (o : Nat) (t m : St) (n : Nat) : Prop := ∀ i, i < n → t.1 (395 + 10 * o) i = (odM m n i : Int)
theorem FH.fr {o : Nat} {t u : St} {X Y W : Nat → Int} {n : Nat} (h : FH o t X Y W n) (g : hfr t u) (ho : o < 2) : FH o u X Y W n := by
  unfold FH
  rw [g.1 (305 + o) (by omega) (by omega) (by omega) (by omega) (by omega), g.1 (390 + 10 * o) (by omega) (by omega) (by omega) (by omega) (by omega), g.1 (391 + 10 * o) (by omega) (by omega) (by omega) (by omega) (by omega), g.1 (392 + 10 * o) (by omega) (by omega) (by omega) (by omega) (by omega), g.1 (397 + 10 * o) (by omega) (by omega) (by omega) (by omega) (by omega)]
  exact h
theorem hoO.fr {o : Nat} {t u m : St} {n : Nat} (h : hoO o t m n) (g : hfr t u) (ho : o < 2) : hoO o u m n := by
  unfold hoO
  rw [g.1 (395 + 10 * o) (by omega) (by omega) (by omega) (by omega) (by omega)]
  exact h
theorem fhO.fr {t u m : St} {f k : Nat} (h : fhO t m f k) (g : hfr t u) : fhO u m f k := by
  unfold fhO
  rw [g.1 350 (by decide) (by decide) (by decide) (by decide) (by decide), g.1 351 (by decide) (by decide) (by decide) (by decide) (by decide), g.1 352 (by decide) (by decide) (by decide) (by decide) (by decide), g.1 353 (by decide) (by decide) (by decide) (by decide) (by decide)]
  exact h
theorem hmF.fr {o : Nat} {t u m : St} {n : Nat} (h : hmF o t m n) (g : hfr t u) (ho : o < 2) : hmF o u m n := ⟨h.1, h.2.fr g ho⟩
theorem hmF.mf {o : Nat} {t m v : St} {n : Nat} (h : hmF o t m n) (g : mfr m v) : hmF o t v n := by
  refine ⟨h.1.fr g, ?_⟩
  rw [g.1 38 (by decide) (by decide) (by decide) (by decide) (by decide), g.1 39 (by decide) (by decide) (by decide) (by decide) (by decide), g.1 40 (by decide) (by decide) (by decide) (by decide) (by decide)]
  exact h.2
theorem hoO.mf {o : Nat} {t m v : St} {n : Nat} (h : hoO o t m n) (g : mfr m v) : hoO o t v n := by
  intro i hi
  rw [h i hi]
  unfold odM
  rw [g.1 38 (by decide) (by decide) (by decide) (by decide) (by decide), g.1 39 (by decide) (by decide) (by decide) (by decide) (by decide)]
theorem fhO.mf {t m v : St} {f k : Nat} (h : fhO t m f k) (g : mfr m v) : fhO t v f k := by
  unfold fhO
  rw [g.1 19 (by decide) (by decide) (by decide) (by decide) (by decide), g.1 20 (by decide) (by decide) (by decide) (by decide) (by decide), g.1 21 (by decide) (by decide) (by decide) (by decide) (by decide), g.1 22 (by decide) (by decide) (by decide) (by decide) (by decide)]
  exact h
/-- a row is filled with none -/
def ffl (F : Nat → Int) (b : Nat) : Nat → Nat → Int
  | 0 => F
  | d + 1 => fup (ffl F b d) (b + d) (-1)
theorem ffl_at {F : Nat → Int} {b : Nat} : ∀ (n d : Nat), d < n → ffl F b n (b + d) = -1 := by
  intro n
  induction n with
  | zero => intro d h; omega
  | succ n ih =>
    intro d h
    unfold ffl
    by_cases hd : d = n
    · rw [hd, fup_at]
    · rw [fup_ne (by omega)]; exact ih d (by omega)
theorem ffl_no {F : Nat → Int} {b : Nat} : ∀ (n x : Nat), (x < b ∨ b + n ≤ x) → ffl F b n x = F x := by
  intro n
  induction n with
  | zero => intro x _; rfl
  | succ n ih => intro x h; unfold ffl; rw [fup_ne (by omega)]; exact ih x (by omega)
theorem h_fill {o f n : Nat} {t : St} (hn : t.1 (305 + o) 8 = n) (h64 : n ≤ 64) (ho : o < 2) (hf : f < 40) (F : Nat → Int) (K : St → Option St) : ∀ (i d q : Nat), d + i = n → i < q →
    f_X2_findGreedy_L74 o K f q d (pA t 380 (ffl F (64 * f) d)) = K (pA t 380 (ffl F (64 * f) n)) := by
  intro i
  induction i with
  | zero =>
    intro d q h1 h2
    obtain ⟨q, rfl⟩ : ∃ k, q = k + 1 := ⟨q - 1, by omega⟩
    have : d = n := by omega
    subst this
    unfold f_X2_findGreedy_L74
    rw [lt1_k, pA_ne (by omega), hn, cmpI_ok (by omega), if_neg (by omega)]
  | succ i ih =>
    intro d q h1 h2
    obtain ⟨q, rfl⟩ : ∃ k, q = k + 1 := ⟨q - 1, by omega⟩
    unfold f_X2_findGreedy_L74
    have e1 : (((f : Int) * 64) + (d : Int)).toNat = 64 * f + d := by omega
    have e2 : ((d : Int) + 1) = ((d + 1 : Nat) : Int) := by omega
    rw [lt1_k, pA_ne (by omega), hn, cmpI_ok (by omega), if_pos (by omega), ixI_ok (by omega), lt1_k, e1, pA_I, show b8 (-1) = -1 from rfl, e2]
    exact ih (d + 1) q (by omega) (by omega)
theorem h_grC {N o : Nat} {t m : St} {n f k d : Nat} {s : Int64} (hH : hmF o t m n) (hO : fmO m f k) (hf : fhO t m f k) (hd : d < n) (hb : bq s d = true) (hN : 10 ≤ N) (K : Int64 → Int → St → Option St) : ∀ (i c q : Nat), c + i = 4 * k → i < q →
    f_X2_findGreedy_L145 N o K f s ((4 * k : Nat) : Int) d q 0 c t = (if fmw (fun c => fitb m f d c s k) i c = -1 then K 0 ((4 * k : Nat) : Int) t else K (mk9 (wsm m f d (fmw (fun c => fitb m f d c s k) i c).toNat) k) (fmw (fun c => fitb m f d c s k) i c + 1) t) := by
  have h64 := hH.1.2.1
  have hk8 := hO.2.2.2.1
  intro i
  induction i with
  | zero =>
    intro c q h1 h2
    obtain ⟨q, rfl⟩ : ∃ k, q = k + 1 := ⟨q - 1, by omega⟩
    have : c = 4 * k := by omega
    subst this
    unfold f_X2_findGreedy_L145 fmw
    rw [cmpI_ok (by omega), if_neg (by omega), if_pos rfl]
  | succ i ih =>
    intro c q h1 h2
    obtain ⟨q, rfl⟩ : ∃ k, q = k + 1 := ⟨q - 1, by omega⟩
    unfold f_X2_findGreedy_L145
    have e2 : ((c : Int) + 1) = ((c + 1 : Nat) : Int) := by omega
    simp only [bq_h (show d < 64 by omega)]
    rw [cmpI_ok (by omega), if_pos (by omega), if_pos trivial, if_neg (by rw [hb]; decide), h_members hH hO hf hd (by omega) hN, bdL_s, e2]
    by_cases hfb : fitb m f d c s k = true
    · rw [fmw_t (P := fun c => fitb m f d c s k) hfb, if_pos hfb, if_neg (by omega), Int.toNat_natCast, e2]
      obtain ⟨q, rfl⟩ : ∃ k, q = k + 1 := ⟨q - 1, by omega⟩
      unfold f_X2_findGreedy_L145
      rw [cmpI_ok (by omega), if_neg (fit_nz hH.1 hO hfb)]
      split <;> rfl
    · rw [fmw_f (P := fun c => fitb m f d c s k) (d := i) (Bool.eq_false_iff.mpr hfb), if_neg hfb]
      exact ih (c + 1) q (by omega) (by omega)
/-- marks in a row that begins at b -/
def mko (b : Nat) (w F : Nat → Int) : Nat → Nat → Int
  | 0 => F
  | j + 1 => fup (mko b w F j) (b + (w j).toNat) j
theorem mko_in {b : Nat} {w F G : Nat → Int} {n : Nat} (h : ∀ e, e < n → F (b + e) = G e) : ∀ (k e : Nat), e < n → mko b w F k (b + e) = mkf w G k e := by
  intro k
  induction k with
  | zero => intro e he; exact h e he
  | succ k ih =>
    intro e he
    unfold mko mkf
    by_cases h1 : e = (w k).toNat
    · rw [h1, fup_at, fup_at]
    · rw [fup_ne (by omega), fup_ne h1]; exact ih e he
theorem mko_out {b n : Nat} {w F : Nat → Int} : ∀ (k : Nat), (∀ j, j < k → (w j).toNat < 64) → ∀ x, (x < b ∨ b + 64 ≤ x) → mko b w F k x = F x := by
  intro k
  induction k with
  | zero => intro _ x _; rfl
  | succ k ih =>
    intro h x hx
    unfold mko
    have := h k (by omega)
    rw [fup_ne (by omega)]
    exact ih (fun j hj => h j (by omega)) x hx
theorem h_mark {N o : Nat} {t m : St} {n f k d c : Nat} {s z : Int64} (ho : o < 2) (hH : hmF o t m n) (hO : fmO m f k) (hf : fhO t m f k) (hd : d < n) (hc : c < 4 * k) (hfb : fitb m f d c s k = true) (hz : z ≠ 0) (F : Nat → Int) (K : St → Option St) : ∀ (i j q : Nat), j + i = k → i < q →
    f_X2_findGreedy_L205 N o K f d z ((c : Int) + 1) q j (pA t 380 (mko (64 * f) (wsm m f d c) F j)) = K (pA t 380 (mko (64 * f) (wsm m f d c) F k)) := by
  have h64 := hH.1.2.1
  have hf40 := hO.1
  have hk8 := hO.2.2.2.1
  intro i
  induction i with
  | zero =>
    intro j q h1 h2
    obtain ⟨q, rfl⟩ : ∃ k, q = k + 1 := ⟨q - 1, by omega⟩
    have : j = k := by omega
    subst this
    unfold f_X2_findGreedy_L205
    rw [ixI_ok (by omega), lt1_k, Int.toNat_natCast, pA_ne (by decide), hf.1, cmpI_ok (by omega), if_neg (by omega)]
  | succ i ih =>
    intro j q h1 h2
    obtain ⟨q, rfl⟩ : ∃ k, q = k + 1 := ⟨q - 1, by omega⟩
    have hfr1 : hfr t (pA t 380 (mko (64 * f) (wsm m f d c) F j)) := hfr.A (by omega)
    obtain ⟨w, w1, w2, w3⟩ := fit_w hH.1 hfb (show j < k by omega)
    unfold f_X2_findGreedy_L205
    have e2 : ((j : Int) + 1) = ((j + 1 : Nat) : Int) := by omega
    have e3 : (((f : Int) * 64) + (w : Int)).toNat = 64 * f + w := by omega
    have e5 : b8 (b8 (j : Int)) = j := by unfold b8; omega
    simp only [lt1_k, jn1_k, Int.toNat_natCast]
    rw [ixI_ok (by omega), pA_ne (by decide), hf.1, cmpI_ok (by omega), if_pos (by omega), if_neg hz, show ((c : Int) + 1 - 1) = (c : Int) by omega, h_whoIsIn (hH.fr hfr1 ho) hO (hf.fr hfr1) hd hc (by omega), bdI_s, w1, cmpI_ok (by omega), if_neg (by omega), ixI_ok (by omega), e3, pA_I, e5, e2]
    have := ih (j + 1) q (by omega) (by omega)
    rw [show mko (64 * f) (wsm m f d c) F (j + 1) = fup (mko (64 * f) (wsm m f d c) F j) (64 * f + (wsm m f d c j).toNat) j from rfl, w1, Int.toNat_natCast] at this
    exact this
theorem h_greedyL {N o : Nat} {t m : St} {n f k : Nat} {s : Int64} (ho : o < 2) (hH : hmF o t m n) (hor : hoO o t m n) (hO : fmO m f k) (hf : fhO t m f k) (hN : 70 ≤ N) (K : St → Option St) : ∀ (i j q : Nat) (F : Nat → Int), j + i = n → i < q → (∀ e, e < n → F (64 * f + e) = gmk m n f k s j e) →
    ∃ G : Nat → Int, f_X2_findGreedy_L121 N o K f ((4 * k : Nat) : Int) q (gfr m n f k s j) j (pA t 380 F) = K (pA t 380 G) ∧ (∀ e, e < n → G (64 * f + e) = gmk m n f k s n e) ∧ ∀ x, (x < 64 * f ∨ 64 * f + 64 ≤ x) → G x = F x := by
  have h64 := hH.1.2.1
  have hf40 := hO.1
  have hk8 := hO.2.2.2.1
  intro i
  induction i with
  | zero =>
    intro j q F h1 h2 h3
    obtain ⟨q, rfl⟩ : ∃ k, q = k + 1 := ⟨q - 1, by omega⟩
    have : j = n := by omega
    subst this
    refine ⟨F, ?_, h3, fun _ _ => rfl⟩
    unfold f_X2_findGreedy_L121
    rw [lt1_k, pA_ne (by omega), hH.2.1, cmpI_ok (by omega), if_neg (by omega)]
  | succ i ih =>
    intro j q F h1 h2 h3
    obtain ⟨q, rfl⟩ : ∃ k, q = k + 1 := ⟨q - 1, by omega⟩
    have hfr1 : hfr t (pA t 380 F) := hfr.A (by omega)
    have hd := odM_lt (m := m) (n := n) (i := j) (by omega)
    have e2 : ((j : Int) + 1) = ((j + 1 : Nat) : Int) := by omega
    unfold f_X2_findGreedy_L121
    rw [lt1_k, pA_ne (by omega), hH.2.1, cmpI_ok (by omega), if_pos (by omega), ixI_ok (by omega), lt1_k, Int.toNat_natCast, pA_ne (by omega), hor j (by omega)]
    have hskip : gc9 m f k (gfr m n f k s j) (odM m n j) = -1 → ∀ x : Int, ∃ G : Nat → Int, f_X2_findGreedy_L205 N o (fun (t53 : St) => f_X2_findGreedy_L121 N o K f ((4 * k : Nat) : Int) q (gfr m n f k s j &&& ((0 : Int64) ^^^ (-1 : Int64))) ((j : Int) + 1) t53) f (odM m n j) 0 x N 0 (pA t 380 F) = K (pA t 380 G) ∧ (∀ e, e < n → G (64 * f + e) = gmk m n f k s n e) ∧ ∀ x, (x < 64 * f ∨ 64 * f + 64 ≤ x) → G x = F x := by
      intro hg x
      obtain ⟨N, rfl⟩ : ∃ k, N = k + 1 := ⟨N - 1, by omega⟩
      unfold f_X2_findGreedy_L205
      have ez : (gfr m n f k s j &&& ((0 : Int64) ^^^ (-1 : Int64))) = gfr m n f k s j := by
        apply bq_ext
        intro e he
        rw [bq_and, bq_not he, bq_0]; simp
      rw [ixI_ok (by omega), lt1_k, Int.toNat_natCast, pA_ne (by decide), hf.1, cmpI_ok (by omega), if_pos (by have := hO.2.2.1; omega), if_pos rfl, ez, e2]
      have := ih (j + 1) q F (by omega) (by omega) (fun e he => by rw [h3 e he]; conv => rhs; unfold gmk; rw [if_pos hg])
      rw [show gfr m n f k s (j + 1) = gfr m n f k s j by conv => lhs; unfold gfr; rw [if_pos hg]] at this
      exact this
    by_cases hb : bq (gfr m n f k s j) (odM m n j) = true
    · have hgc : gc9 m f k (gfr m n f k s j) (odM m n j) = fmw (fun c => fitb m f (odM m n j) c (gfr m n f k s j) k) (4 * k) 0 := by unfold gc9; rw [if_pos hb]
      rw [show (0 : Int) = ((0 : Nat) : Int) from rfl, h_grC (hH.fr hfr1 ho) hO (hf.fr hfr1) hd.1 hb (by omega) _ (4 * k) 0 N (by omega) (by omega)]
      by_cases hg : fmw (fun c => fitb m f (odM m n j) c (gfr m n f k s j) k) (4 * k) 0 = -1
      · rw [if_pos hg]
        exact hskip (by rw [hgc, hg]) _
      · rw [if_neg hg]
        obtain ⟨c, c1, c2, c3, c4⟩ := fmw_some _ _ hg
        rw [c3, Int.toNat_natCast]
        have hm := h_mark (N := N) (K := fun (t53 : St) => f_X2_findGreedy_L121 N o K f ((4 * k : Nat) : Int) q (gfr m n f k s j &&& (mk9 (wsm m f (odM m n j) c) k ^^^ (-1 : Int64))) ((j : Int) + 1) t53) ho hH hO hf hd.1 (show c < 4 * k by omega) c4 (fit_nz hH.1 hO c4) F k 0 N (by omega) (by omega)
        rw [show mko (64 * f) (wsm m f (odM m n j) c) F 0 = F from rfl] at hm
        rw [hm, e2]
        have hgf : gfr m n f k s (j + 1) = gfr m n f k s j &&& (mk9 (wsm m f (odM m n j) c) k ^^^ (-1 : Int64)) := by
          conv => lhs; unfold gfr
          rw [hgc, if_neg hg, c3, Int.toNat_natCast]
        obtain ⟨G, g1, g2, g3⟩ := ih (j + 1) q (mko (64 * f) (wsm m f (odM m n j) c) F k) (by omega) (by omega) (fun e he => by
          rw [mko_in h3 k e he]
          conv => rhs; unfold gmk
          rw [hgc, if_neg hg, c3, Int.toNat_natCast])
        rw [hgf] at g1
        refine ⟨G, g1, g2, fun x hx => ?_⟩
        rw [g3 x hx]
        refine mko_out (n := n) k (fun j2 hj2 => ?_) x hx
        obtain ⟨w, w1, w2, w3⟩ := fit_w hH.1 c4 hj2
        omega
    · have hgc : gc9 m f k (gfr m n f k s j) (odM m n j) = -1 := by unfold gc9; rw [if_neg hb]
      have hb' : bq (gfr m n f k s j) (odM m n j) = false := by
        cases h9 : bq (gfr m n f k s j) (odM m n j) with
        | true => exact absurd h9 hb
        | false => rfl
      obtain ⟨N2, hN2⟩ : ∃ k, N = k + 1 := ⟨N - 1, by omega⟩
      have hskip2 := hskip hgc 0
      have hL : ∀ (K9 : Int64 → Int → St → Option St), f_X2_findGreedy_L145 N o K9 f (gfr m n f k s j) ((4 * k : Nat) : Int) (odM m n j) N 0 0 (pA t 380 F) = K9 0 0 (pA t 380 F) := by
        intro K9
        conv => lhs; rw [hN2]
        unfold f_X2_findGreedy_L145
        simp only [bq_h (show odM m n j < 64 by omega)]
        rw [cmpI_ok (by omega), if_pos (by have := hO.2.2.1; omega), if_pos trivial, if_pos hb']
      rw [hL]
      exact hskip2
