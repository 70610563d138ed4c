/-! greedy copies -/
/-- the copy taken for dancer d, if the ones of s are in none yet -/
def gc9 (m : St) (f k : Nat) (s : Int64) (d : Nat) : Int := if bq s d = true then fmw (fun c => fitb m f d c s k) (4 * k) 0 else -1
def odM (m : St) (n i : Nat) : Nat := (ord9 (m.1 38) (m.1 39) n i).toNat
/-- who is left ahead of the i-th in order -/
def gfr (m : St) (n f k : Nat) (s : Int64) : Nat → Int64
  | 0 => s
  | i + 1 => if gc9 m f k (gfr m n f k s i) (odM m n i) = -1 then gfr m n f k s i else gfr m n f k s i &&& (mk9 (wsm m f (odM m n i) (gc9 m f k (gfr m n f k s i) (odM m n i)).toNat) k ^^^ (-1))
/-- who was found in a slot (-1: in any) -/
def gst (m : St) (n f k : Nat) (s : Int64) (sl : Int) : Nat → Int64
  | 0 => 0
  | i + 1 => if gc9 m f k (gfr m n f k s i) (odM m n i) = -1 then gst m n f k s sl i else gst m n f k s sl i ||| (if sl = -1 then mk9 (wsm m f (odM m n i) (gc9 m f k (gfr m n f k s i) (odM m n i)).toNat) k else shlL 1 (wsm m f (odM m n i) (gc9 m f k (gfr m n f k s i) (odM m n i)).toNat sl.toNat))
def mkf (w : Nat → Int) (F : Nat → Int) : Nat → Nat → Int
  | 0 => F
  | j + 1 => fup (mkf w F j) (w j).toNat j
/-- in which slot each one was found -/
def gmk (m : St) (n f k : Nat) (s : Int64) : Nat → Nat → Int
  | 0 => fun _ => -1
  | i + 1 => if gc9 m f k (gfr m n f k s i) (odM m n i) = -1 then gmk m n f k s i else mkf (wsm m f (odM m n i) (gc9 m f k (gfr m n f k s i) (odM m n i)).toNat) (gmk m n f k s i) k
theorem gfr_s {m : St} {n f k : Nat} {s : Int64} {i : Nat} : gfr m n f k s (i + 1) = if gc9 m f k (gfr m n f k s i) (odM m n i) = -1 then gfr m n f k s i else gfr m n f k s i &&& (mk9 (wsm m f (odM m n i) (gc9 m f k (gfr m n f k s i) (odM m n i)).toNat) k ^^^ (-1)) := rfl
theorem gst_s {m : St} {n f k : Nat} {s : Int64} {sl : Int} {i : Nat} : gst m n f k s sl (i + 1) = if gc9 m f k (gfr m n f k s i) (odM m n i) = -1 then gst m n f k s sl i else gst m n f k s sl i ||| (if sl = -1 then mk9 (wsm m f (odM m n i) (gc9 m f k (gfr m n f k s i) (odM m n i)).toNat) k else shlL 1 (wsm m f (odM m n i) (gc9 m f k (gfr m n f k s i) (odM m n i)).toNat sl.toNat)) := rfl
theorem gmk_s {m : St} {n f k : Nat} {s : Int64} {i : Nat} : gmk m n f k s (i + 1) = if gc9 m f k (gfr m n f k s i) (odM m n i) = -1 then gmk m n f k s i else mkf (wsm m f (odM m n i) (gc9 m f k (gfr m n f k s i) (odM m n i)).toNat) (gmk m n f k s i) k := rfl
theorem gc9_rng {m : St} {f k d : Nat} {s : Int64} : -1 ≤ gc9 m f k s d ∧ gc9 m f k s d < 4 * k := by
  unfold gc9
  split
  · by_cases h : fmw (fun c => fitb m f d c s k) (4 * k) 0 = -1
    · rw [h]; omega
    · obtain ⟨c, h1, h2, h3, h4⟩ := fmw_some _ _ h
      rw [h3]; omega
  · omega
theorem gc9_fit {m : St} {f k d : Nat} {s : Int64} (h : gc9 m f k s d ≠ -1) : bq s d = true ∧ ∃ c : Nat, gc9 m f k s d = c ∧ c < 4 * k ∧ fitb m f d c s k = true := by
  unfold gc9 at h ⊢
  by_cases hb : bq s d = true
  · rw [if_pos hb] at h ⊢
    obtain ⟨c, h1, h2, h3, h4⟩ := fmw_some _ _ h
    exact ⟨hb, c, h3, by omega, h4⟩
  · rw [if_neg hb] at h; exact absurd rfl h
theorem odM_lt {m : St} {n i : Nat} (h : i < n) : odM m n i < n ∧ ord9 (m.1 38) (m.1 39) n i = (odM m n i : Int) := by
  obtain ⟨e, h1, h2⟩ := ord9_val (X := m.1 38) (Y := m.1 39) h
  unfold odM
  rw [h2, Int.toNat_natCast]
  exact ⟨h1, rfl⟩
theorem odM_has {m : St} {n e : Nat} (h : e < n) : ∃ i, i < n ∧ odM m n i = e := by
  obtain ⟨j, h1, h2⟩ := ord9_has (X := m.1 38) (Y := m.1 39) h
  exact ⟨j, h1, by unfold odM; rw [h2, Int.toNat_natCast]⟩
theorem mkf_at {w F : Nat → Int} : ∀ (k : Nat), (∀ i j, i < k → j < k → w i = w j → i = j) → (∀ j, j < k → 0 ≤ w j) → ∀ j e : Nat, j < k → w j = e → mkf w F k e = j := by
  intro k
  induction k with
  | zero => intro _ _ j e h; omega
  | succ k ih =>
    intro h1 h2 j e hj he
    unfold mkf
    by_cases hjk : j = k
    · subst hjk
      rw [he, Int.toNat_natCast, fup_at]
    · have : e ≠ (w k).toNat := by
        intro h3
        have := h2 k (by omega)
        exact hjk (h1 j k (by omega) (by omega) (by omega))
      rw [fup_ne this]
      exact ih (fun i j hi hj => h1 i j (by omega) (by omega)) (fun j hj => h2 j (by omega)) j e (by omega) he
theorem mkf_no {w F : Nat → Int} : ∀ (k : Nat), (∀ j, j < k → 0 ≤ w j) → ∀ e : Nat, (∀ j, j < k → w j ≠ e) → mkf w F k e = F e := by
  intro k
  induction k with
  | zero => intro _ e _; rfl
  | succ k ih =>
    intro h1 e h2
    unfold mkf
    have : e ≠ (w k).toNat := by
      intro h3
      have := h1 k (by omega)
      exact h2 k (by omega) (by omega)
    rw [fup_ne this]
    exact ih (fun j hj => h1 j (by omega)) e (fun j hj => h2 j (by omega))
theorem g_inv {m : St} {n f k : Nat} {s : Int64} (hF : fmF m n) (hO : fmO m f k) : ∀ i : Nat, i ≤ n → ∀ e, e < 64 →
    (-1 ≤ gmk m n f k s i e ∧ gmk m n f k s i e < k) ∧ (0 ≤ gmk m n f k s i e → bq (gfr m n f k s i) e = false ∧ e < n) ∧
    (∀ sl : Int, (sl = -1 ∨ (0 ≤ sl ∧ sl < k)) → (bq (gst m n f k s sl i) e = true ↔ 0 ≤ gmk m n f k s i e ∧ (sl = -1 ∨ gmk m n f k s i e = sl))) ∧
    (bq (gfr m n f k s i) e = true → bq s e = true) := by
  have h64 := hF.2.1
  have hk1 := hO.2.2.1
  intro i
  induction i with
  | zero =>
    intro _ e he
    unfold gmk gst gfr
    refine ⟨by omega, fun h => by omega, fun sl _ => ?_, fun h => h⟩
    rw [bq_0]
    constructor
    · intro h; cases h
    · intro h; omega
  | succ i ih =>
    intro hi e he
    have hd := odM_lt (m := m) (n := n) (i := i) (by omega)
    have ih := ih (by omega) e he
    simp only [gmk_s, gst_s, gfr_s]
    by_cases hg : gc9 m f k (gfr m n f k s i) (odM m n i) = -1
    · simp only [if_pos hg]
      exact ih
    · simp only [if_neg hg]
      obtain ⟨hbd, c, hc1, hc2, hc3⟩ := gc9_fit hg
      rw [hc1, Int.toNat_natCast]
      generalize hw : wsm m f (odM m n i) c = w
      have w1 : ∀ j, j < k → ∃ v : Nat, w j = v ∧ v < n ∧ bq (gfr m n f k s i) v = true := fun j hj => by rw [← hw]; exact fit_w hF hc3 hj
      have w0 : ∀ j, j < k → 0 ≤ w j ∧ w j < 64 := fun j hj => by obtain ⟨v, h1, h2, h3⟩ := w1 j hj; omega
      have w2 : ∀ i j, i < k → j < k → w i = w j → i = j := fun a b ha hb he2 => by rw [← hw] at he2; exact fit_inj hF hO hc3 ha hb he2
      have hmk := bq_mk k w0 e he
      by_cases hin : ∃ j, j < k ∧ w j = e
      · obtain ⟨j, hj, hje⟩ := hin
        have hm := mkf_at (F := gmk m n f k s i) k w2 (fun j hj => (w0 j hj).1) j e hj hje
        obtain ⟨v, h1, h2, h3⟩ := w1 j hj
        have hve : v = e := by omega
        subst hve
        have hneg : ¬ 0 ≤ gmk m n f k s i v := fun h => by rw [(ih.2.1 h).1] at h3; cases h3
        rw [hm]
        refine ⟨by omega, fun _ => ⟨?_, h2⟩, fun sl hsl => ?_, fun h => ?_⟩
        · rw [bq_and, bq_not he, hmk.mpr ⟨j, hj, hje⟩]; simp
        · rw [bq_or, Bool.or_eq_true, ih.2.2.1 sl hsl]
          by_cases hs1 : sl = -1
          · rw [if_pos hs1, hmk]
            constructor
            · intro _; exact ⟨by omega, Or.inl hs1⟩
            · intro _; exact Or.inr ⟨j, hj, hje⟩
          · rw [if_neg hs1]
            have hsl2 : 0 ≤ sl ∧ sl < k := by omega
            obtain ⟨x, hx⟩ := Int.eq_ofNat_of_zero_le hsl2.1
            subst hx
            rw [Int.toNat_natCast]
            obtain ⟨v2, b1, b2, b3⟩ := w1 x (by omega)
            rw [b1, bq_1 (by omega) he, decide_eq_true_iff]
            constructor
            · intro h
              rcases h with h | h
              · exact absurd h.1 hneg
              · have : j = x := w2 j x hj (by omega) (by omega)
                exact ⟨by omega, Or.inr (by omega)⟩
            · intro h
              right
              have : (j : Int) = x := by omega
              have : j = x := by omega
              subst this
              omega
        · rw [bq_and, Bool.and_eq_true] at h
          exact ih.2.2.2 h.1
      · have hno : ∀ j, j < k → w j ≠ e := fun j hj h => hin ⟨j, hj, h⟩
        have hm := mkf_no (F := gmk m n f k s i) k (fun j hj => (w0 j hj).1) e hno
        have hmf : bq (mk9 w k) e = false := by
          cases h9 : bq (mk9 w k) e with
          | false => rfl
          | true => exact absurd (hmk.mp h9) hin
        rw [hm]
        refine ⟨ih.1, fun h => ⟨?_, (ih.2.1 h).2⟩, fun sl hsl => ?_, fun h => ?_⟩
        · rw [bq_and, (ih.2.1 h).1]; rfl
        · rw [bq_or, Bool.or_eq_true, ih.2.2.1 sl hsl]
          by_cases hs1 : sl = -1
          · rw [if_pos hs1, hmf]
            constructor
            · intro h; rcases h with h | h
              · exact h
              · cases h
            · intro h; exact Or.inl h
          · rw [if_neg hs1]
            have hsl2 : 0 ≤ sl ∧ sl < k := by omega
            obtain ⟨x, hx⟩ := Int.eq_ofNat_of_zero_le hsl2.1
            subst hx
            rw [Int.toNat_natCast]
            obtain ⟨v2, b1, b2, b3⟩ := w1 x (by omega)
            rw [b1, bq_1 (by omega) he, decide_eq_true_iff]
            constructor
            · intro h; rcases h with h | h
              · exact h
              · exact absurd (by omega : w x = e) (hno x (by omega))
            · intro h; exact Or.inl h
        · rw [bq_and, Bool.and_eq_true] at h
          exact ih.2.2.2 h.1
/-! the model's greedy copies -/
theorem s_grC {N : Nat} {m : St} {n f k d : Nat} {s : Int64} (hO : fmO m f k) (hF : fmF m n) (hd : d < n) (hN : 70 ≤ N) : ∀ (i c q : Nat) (u : St), c + i = 4 * k → i < q → mfr m u → u.1 80 = m.1 80 →
    ∃ v : St, (∀ K : Int → St → Option (Int64 × St), f_X12_greedy_L47 N K f s d q c u = K (if fmw (fun c => fitb m f d c s k) i c = -1 then ((4 * k : Nat) : Int) else fmw (fun c => fitb m f d c s k) i c) v) ∧ mfr m v ∧ v.1 80 = m.1 80 ∧
      ∀ c2 : Nat, fmw (fun c => fitb m f d c s k) i c = c2 → ∀ j, j < k → v.1 81 j = wsm m f d c2 j := by
  have hf40 := hO.1
  have hk8 := hO.2.2.2.1
  intro i
  induction i with
  | zero =>
    intro c q u h1 h2 h3 h4
    obtain ⟨q, rfl⟩ : ∃ k, q = k + 1 := ⟨q - 1, by omega⟩
    refine ⟨u, fun K => ?_, h3, h4, fun c2 h => by unfold fmw at h; omega⟩
    have hku := (hO.fr h3).2.1
    unfold f_X12_greedy_L47 fmw
    rw [ixI_ok (by omega), lt1_k, Int.toNat_natCast, hku, cmpI_ok (by omega), if_neg (by omega), if_pos rfl]
    congr 1
    omega
  | succ i ih =>
    intro c q u h1 h2 h3 h4
    obtain ⟨q, rfl⟩ : ∃ k, q = k + 1 := ⟨q - 1, by omega⟩
    have hku := (hO.fr h3).2.1
    obtain ⟨v, a1, a2, a3, a4, a5, a6, a7, a9⟩ := s_fits (N := N) (s := s) (hF.fr h3) (hO.fr h3) hd (show c < 4 * k by omega) hN
    rw [fitb_fr h3] at a1 a9
    have e4 : ((c : Int) + 1) = ((c + 1 : Nat) : Int) := by omega
    have hun : ∀ K : Int → St → Option (Int64 × St), f_X12_greedy_L47 N K f s d (q + 1) c u = (if fitb m f d c s k = true then K c v else f_X12_greedy_L47 N K f s d q ((c + 1 : Nat) : Int) v) := by
      intro K
      conv => lhs; unfold f_X12_greedy_L47
      rw [ixI_ok (by omega), lt1_k, Int.toNat_natCast, hku, cmpI_ok (by omega), if_pos (by omega), a1, bdI_s, cmpI_ok (by split <;> omega), e4]
      cases fitb m f d c s k <;> rfl
    by_cases hb : fitb m f d c s k = true
    · refine ⟨v, fun K => ?_, h3.tr a2, by rw [a3, h4], fun c2 h j hj => ?_⟩
      · rw [hun, if_pos hb, fmw_t (P := fun c => fitb m f d c s k) hb, if_neg (by omega)]
      · rw [fmw_t (P := fun c => fitb m f d c s k) hb] at h
        have : c = c2 := by omega
        subst this
        rw [(a9 hb).1 j hj, wsm_fr h3]
    · have hb' : fitb m f d c s k = false := Bool.eq_false_iff.mpr hb
      obtain ⟨v2, b1, b2, b3, b4⟩ := ih (c + 1) q v (by omega) (by omega) (h3.tr a2) (by rw [a3, h4])
      rw [fmw_f (P := fun c => fitb m f d c s k) hb']
      exact ⟨v2, fun K => by rw [hun, if_neg hb]; exact b1 K, b2, b3, b4⟩
theorem s_greedyL {N : Nat} {m : St} {n f k : Nat} {s : Int64} {sl : Int} (hO : fmO m f k) (hF : fmF m n) (hsl : sl = -1 ∨ (0 ≤ sl ∧ sl < k)) (hN : 70 ≤ N) (hor : ∀ i, i < n → m.1 80 i = ord9 (m.1 38) (m.1 39) n i) (K : Int64 → St → Option (Int64 × St)) : ∀ (i j q : Nat) (u : St), j + i = n → i < q → mfr m u → u.1 80 = m.1 80 →
    ∃ v : St, f_X12_greedy_L13 N K f sl q (gfr m n f k s j) (gst m n f k s sl j) j u = K (gst m n f k s sl n) v ∧ mfr m v := by
  have h64 := hF.2.1
  have hf40 := hO.1
  have hk8 := hO.2.2.2.1
  intro i
  induction i with
  | zero =>
    intro j q u h1 h2 h3 h4
    obtain ⟨q, rfl⟩ : ∃ k, q = k + 1 := ⟨q - 1, by omega⟩
    have hj : j = n := by omega
    subst hj
    refine ⟨u, ?_, h3⟩
    unfold f_X12_greedy_L13
    rw [lt1_k, (hF.fr h3).1, cmpI_ok (by omega), if_neg (by omega)]
  | succ i ih =>
    intro j q u h1 h2 h3 h4
    obtain ⟨q, rfl⟩ : ∃ k, q = k + 1 := ⟨q - 1, by omega⟩
    have hd := odM_lt (m := m) (n := n) (i := j) (by omega)
    have e4 : ((j : Int) + 1) = ((j + 1 : Nat) : Int) := by omega
    unfold f_X12_greedy_L13
    simp only [lt1_k, jn1_k]
    rw [(hF.fr h3).1, cmpI_ok (by omega), if_pos (by omega), ixI_ok (by omega), Int.toNat_natCast, h4, hor j (by omega), hd.2, s_has (by omega), bdI_s, cmpI_ok (by split <;> omega)]
    by_cases hb : bq (gfr m n f k s j) (odM m n j) = true
    · simp only [hb, if_true]
      rw [if_neg (by decide)]
      obtain ⟨v, a1, a2, a3, a4⟩ := s_grC (N := N) (s := gfr m n f k s j) hO hF hd.1 hN (4 * k) 0 N u (by omega) (by omega) h3 h4
      rw [show (0 : Int) = ((0 : Nat) : Int) from rfl]
      rw [a1]
      have hgc : gc9 m f k (gfr m n f k s j) (odM m n j) = fmw (fun c => fitb m f (odM m n j) c (gfr m n f k s j) k) (4 * k) 0 := by unfold gc9; rw [if_pos hb]
      have hkv := (hO.fr a2).2.1
      rw [ixI_ok (by omega), Int.toNat_natCast, hkv]
      by_cases hg : fmw (fun c => fitb m f (odM m n j) c (gfr m n f k s j) k) (4 * k) 0 = -1
      · rw [if_pos hg, cmpI_ok (by omega), if_pos (by omega), e4]
        have := ih (j + 1) q v (by omega) (by omega) a2 a3
        rw [gfr_s, gst_s, hgc, if_pos hg, if_pos hg] at this
        exact this
      · obtain ⟨c, c1, c2, c3, c4⟩ := fmw_some _ _ hg
        rw [if_neg hg, c3, cmpI_ok (by omega), if_neg (by omega), cmpI_ok (by omega), e4]
        have h81 := a4 c c3
        have hof : f_X12_ofCopy N f v = some (mk9 (wsm m f (odM m n j) c) k, v) := s_ofCopy hf40 hkv hk8 h81 (by omega)
        have := ih (j + 1) q v (by omega) (by omega) a2 a3
        rw [gfr_s, gst_s, hgc, if_neg hg, if_neg hg, c3, Int.toNat_natCast] at this
        by_cases hs1 : sl = -1
        · rw [if_pos hs1, hof, bdL_s, hof, bdL_s]
          rw [if_pos hs1] at this
          exact this
        · rw [if_neg hs1, ixI_ok (by omega)]
          rw [if_neg hs1] at this
          unfold f_X12_one
          rw [bdL_s, hof, bdL_s, h81 sl.toNat (by omega)]
          exact this
    · simp only [hb, if_false]
      rw [if_pos (by decide), e4]
      have hgc : gc9 m f k (gfr m n f k s j) (odM m n j) = -1 := by unfold gc9; rw [if_neg hb]
      have := ih (j + 1) q u (by omega) (by omega) h3 h4
      rw [gfr_s, gst_s, if_pos hgc, if_pos hgc] at this
      exact this
theorem gfr_fr {m u : St} (h : mfr m u) : gfr u = gfr m ∧ gst u = gst m ∧ gmk u = gmk m := by
  have h1 : odM u = odM m := by
    funext n i
    unfold odM
    rw [h.1 38 (by decide) (by decide) (by decide) (by decide) (by decide), h.1 39 (by decide) (by decide) (by decide) (by decide) (by decide)]
  have h2 : gc9 u = gc9 m := by
    funext f k s d
    unfold gc9
    rw [fitb_fr h]
  have h3 : gfr u = gfr m := by
    funext n f k s i
    induction i with
    | zero => rfl
    | succ i ih => unfold gfr; rw [ih, h1, h2, wsm_fr h]
  refine ⟨h3, ?_, ?_⟩
  · funext n f k s sl i
    induction i with
    | zero => rfl
    | succ i ih => unfold gst; rw [ih, h1, h2, h3, wsm_fr h]
  · funext n f k s i
    induction i with
    | zero => rfl
    | succ i ih => unfold gmk; rw [ih, h1, h2, h3, wsm_fr h]
theorem s_greedy {N : Nat} {m : St} {n f k : Nat} {s : Int64} {sl : Int} (hO : fmO m f k) (hF : fmF m n) (hsl : sl = -1 ∨ (0 ≤ sl ∧ sl < k)) (hN : 70 ≤ N) : ∃ v : St, f_X12_greedy N s f sl m = some (gst m n f k s sl n, v) ∧ mfr m v := by
  have h64 := hF.2.1
  obtain ⟨A, a1, a2⟩ := s_sort (N := N) rfl rfl hF.1 hF.2 (by omega)
  have hu : mfr m (pA m 80 A) := mfr.A (by omega)
  unfold f_X12_greedy
  rw [a1, bdV_s]
  obtain ⟨v, b1, b2⟩ := s_greedyL (N := N) (s := s) (sl := sl) (hO.fr hu) (hF.fr hu) hsl hN (fun i hi => by rw [pA_at, pA_ne (by decide), pA_ne (by decide)]; exact a2 i hi) (fun (k42 : Int64) (t43 : St) => some (k42, t43)) n 0 N (pA m 80 A) (by omega) (by omega) mfr.rf rfl
  refine ⟨v, ?_, hu.tr b2⟩
  rw [← (gfr_fr hu).2.1]; exact b1
