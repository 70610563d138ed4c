/-! two at one place: both sides -/
/-- no two of the first d, or the first two -/
def colM (S : Nat → Nat → Prop) (d a b : Nat) : Prop := a < b ∧ b < d ∧ S a b ∧ ∀ x y, x < y → y < d → S x y → a ≤ x ∧ (x = a → b ≤ y)
theorem colM_uni {S : Nat → Nat → Prop} {d a b a2 b2 : Nat} (h : colM S d a b) (g : colM S d a2 b2) : a = a2 ∧ b = b2 := by
  have h1 := h.2.2.2 a2 b2 g.1 g.2.1 g.2.2.1
  have h2 := g.2.2.2 a b h.1 h.2.1 h.2.2.1
  have e : a = a2 := by omega
  exact ⟨e, by have := h1.2 e.symm; have := h2.2 e; omega⟩
/-- the model's search for two at one place -/
theorem s_colI {m : St} {n d : Nat} (hn : m.1 200 37 = n) (h64 : n ≤ 64) (hd : d < n) (hR : ∀ e, e < n → inR (m.1 76 e) ∧ inR (m.1 77 e)) (K92 : Int → St → Option (Int × St)) (K93 : St → Option (Int × St)) : ∀ (i e q : Nat), e + i = n → i < q →
    (f_X12_reckons_L376 K92 K93 d q e m = K93 m ∧ ∀ y, e ≤ y → y < n → ¬ (m.1 76 d = m.1 76 y ∧ m.1 77 d = m.1 77 y)) ∨ (∃ y : Nat, e ≤ y ∧ y < n ∧ (m.1 76 d = m.1 76 y ∧ m.1 77 d = m.1 77 y) ∧ (∀ x, e ≤ x → x < y → ¬ (m.1 76 d = m.1 76 x ∧ m.1 77 d = m.1 77 x)) ∧ f_X12_reckons_L376 K92 K93 d q e m = K92 y m) := by
  intro i
  induction i with
  | zero =>
    intro e q h1 h2
    obtain ⟨q, rfl⟩ : ∃ k, q = k + 1 := ⟨q - 1, by omega⟩
    left
    refine ⟨?_, fun y h3 h4 => by omega⟩
    unfold f_X12_reckons_L376
    rw [lt1_k, hn, cmpI_ok (by omega), if_neg (by omega)]
  | succ i ih =>
    intro e q h1 h2
    obtain ⟨q, rfl⟩ : ∃ k, q = k + 1 := ⟨q - 1, by omega⟩
    have r1 := hR d hd
    have r2 := hR e (by omega)
    have hun : f_X12_reckons_L376 K92 K93 d (q + 1) e m = (if m.1 76 d = m.1 76 e ∧ m.1 77 d = m.1 77 e then K92 e m else f_X12_reckons_L376 K92 K93 d q ((e + 1 : Nat) : Int) m) := by
      conv => lhs; unfold f_X12_reckons_L376
      simp only [lt1_k, jn1_k, Int.toNat_natCast]
      rw [hn, cmpI_ok (by omega), if_pos (by omega), ixI_ok (by omega), ixI_ok (by omega), cmpI_ok ⟨r1.1, r2.1⟩, ixI_ok (by omega), ixI_ok (by omega), cmpI_ok ⟨r1.2, r2.2⟩, show ((e : Int) + 1) = ((e + 1 : Nat) : Int) by omega]
      by_cases a1 : m.1 76 d = m.1 76 e
      · rw [if_pos a1]
        by_cases a2 : m.1 77 d = m.1 77 e
        · rw [if_pos a2, if_pos ⟨a1, a2⟩]
        · rw [if_neg a2, if_neg (fun q => a2 q.2)]
      · rw [if_neg a1, if_neg (fun q => a1 q.1)]
    by_cases hs : m.1 76 d = m.1 76 e ∧ m.1 77 d = m.1 77 e
    · right
      exact ⟨e, Nat.le_refl _, by omega, hs, fun x h3 h4 => by omega, by rw [hun, if_pos hs]⟩
    · rcases ih (e + 1) q (by omega) (by omega) with ⟨b1, b2⟩ | ⟨y, b1, b2, b3, b4, b5⟩
      · left
        refine ⟨by rw [hun, if_neg hs]; exact b1, fun y h3 h4 => ?_⟩
        by_cases hy : y = e
        · rw [hy]; exact hs
        · exact b2 y (by omega) h4
      · right
        refine ⟨y, by omega, b2, b3, fun x h3 h4 => ?_, by rw [hun, if_neg hs]; exact b5⟩
        by_cases hx : x = e
        · rw [hx]; exact hs
        · exact b4 x (by omega) h4
def sme (A B : Nat → Int) (x y : Nat) : Prop := A x = A y ∧ B x = B y
theorem s_colL {N n : Nat} {m : St} (hn : m.1 200 37 = n) (h64 : n ≤ 64) (hR : ∀ e, e < n → inR (m.1 76 e) ∧ inR (m.1 77 e)) (hN : 70 ≤ N) (K86 : Int → Int → St → Option (Int × St)) (K87 : St → Option (Int × St)) : ∀ (i d q : Nat), d + i = n → i < q → (∀ x y, x < d → x < y → y < n → ¬ sme (m.1 76) (m.1 77) x y) →
    (f_X12_reckons_L361 N K86 K87 q d m = K87 m ∧ ∀ x y, x < y → y < n → ¬ sme (m.1 76) (m.1 77) x y) ∨ (∃ a b : Nat, colM (sme (m.1 76) (m.1 77)) n a b ∧ f_X12_reckons_L361 N K86 K87 q d m = K86 a b m) := by
  intro i
  induction i with
  | zero =>
    intro d q h1 h2 h3
    obtain ⟨q, rfl⟩ : ∃ k, q = k + 1 := ⟨q - 1, by omega⟩
    left
    refine ⟨?_, fun x y h4 h5 => h3 x y (by omega) h4 h5⟩
    unfold f_X12_reckons_L361
    rw [lt1_k, hn, cmpI_ok (by omega), if_neg (by omega)]
  | succ i ih =>
    intro d q h1 h2 h3
    obtain ⟨q, rfl⟩ : ∃ k, q = k + 1 := ⟨q - 1, by omega⟩
    have hun : f_X12_reckons_L361 N K86 K87 (q + 1) d m = f_X12_reckons_L376 (fun (k101 : Int) (t102 : St) => K86 d k101 t102) (fun (t103 : St) => f_X12_reckons_L361 N K86 K87 q ((d + 1 : Nat) : Int) t103) d N ((d + 1 : Nat) : Int) m := by
      conv => lhs; unfold f_X12_reckons_L361
      rw [lt1_k, hn, cmpI_ok (by omega), if_pos (by omega), show ((d : Int) + 1) = ((d + 1 : Nat) : Int) by omega]
    rcases s_colI hn h64 (by omega : d < n) hR (fun (k101 : Int) (t102 : St) => K86 d k101 t102) (fun (t103 : St) => f_X12_reckons_L361 N K86 K87 q ((d + 1 : Nat) : Int) t103) (n - (d + 1)) (d + 1) N (by omega) (by omega) with ⟨b1, b2⟩ | ⟨y, b1, b2, b3, b4, b5⟩
    · rw [hun, b1]
      refine ih (d + 1) q (by omega) (by omega) (fun x y h4 h5 h6 => ?_)
      by_cases hx : x = d
      · rw [hx]; exact b2 y (by omega) h6
      · exact h3 x y (by omega) h5 h6
    · right
      refine ⟨d, y, ⟨by omega, b2, b3, fun x z h4 h5 h6 => ?_⟩, by rw [hun, b5]⟩
      have hxd : d ≤ x := by
        apply Classical.byContradiction
        intro h7
        exact h3 x z (by omega) h4 h5 h6
      refine ⟨hxd, fun hx => ?_⟩
      subst hx
      apply Classical.byContradiction
      intro h7
      exact b4 z (by omega) (by omega) h6
/-- the hall's spots: the least of those before d at a spot, as the stamps have it -/
def lstO (L : Nat → Int) (st : Int) (P : Nat → Nat) (d : Nat) : Prop := ∀ s, s < 4096 → (L s < st ∧ ∀ e, e < d → P e ≠ s) ∨ (∃ e, e < d ∧ P e = s ∧ L s = st + (e : Int) ∧ ∀ x, x < e → P x ≠ s)
/-- what has been found of two at one spot among the first d -/
def blO (w a b : Int) (P : Nat → Nat) (d : Nat) : Prop := (w = 0 ∧ ∀ x y, x < y → y < d → P x ≠ P y) ∨ (w = 5 ∧ ∃ p q : Nat, a = p ∧ b = q ∧ colM (fun x y => P x = P y) d p q)
theorem h_landL {N n : Nat} {t : St} {X Y T Z : Nat → Int} {st : Int} (h64 : n ≤ 64) (hX : t.1 373 = X) (hY : t.1 374 = Y) (hT : t.1 375 = T) (hst : t.1 304 11 = st) (hsr : 0 ≤ st ∧ st < 2000000000) (hok : ∀ d, d < n → ok4 (X d) ∧ ok4 (Y d)) (hL0 : ∀ s, s < 4096 → 0 ≤ t.1 378 s) (K : St → Option (Int × St)) : ∀ (i d q : Nat) (u : St), d + i = n → i < q →
    u.1 373 = X → u.1 374 = Y → u.1 375 = T → u.1 304 11 = st → (∀ e, e < n → d ≤ e → u.1 376 e = Z e) → (∀ e, e < d → u.1 376 e = cdZ (X e) (Y e) ((Z e + T e) % 4)) → lstO (u.1 378) st (fun e => spt (X e) (Y e)) d → (∀ s, s < 4096 → 0 ≤ u.1 378 s ∧ u.1 378 s ≤ 2000000100) → blO (u.1 304 14) (u.1 304 15) (u.1 304 16) (fun e => spt (X e) (Y e)) d →
    ∃ w : St, f_X1_land_L39 N K n q d u = K w ∧ (∀ e, e < n → w.1 376 e = cdZ (X e) (Y e) ((Z e + T e) % 4)) ∧ lstO (w.1 378) st (fun e => spt (X e) (Y e)) n ∧ blO (w.1 304 14) (w.1 304 15) (w.1 304 16) (fun e => spt (X e) (Y e)) n ∧ (∀ a, a ≠ 376 → a ≠ 378 → a ≠ 304 → w.1 a = u.1 a) ∧ (∀ b, b ≠ 14 → b ≠ 15 → b ≠ 16 → w.1 304 b = u.1 304 b) ∧ w.2 = u.2 ∧ (∀ s, s < 4096 → 0 ≤ w.1 378 s ∧ w.1 378 s ≤ 2000000100) := by
  intro i
  induction i with
  | zero =>
    intro d q u h1 h2 u1 u2 u3 u4 u5 u6 u7 u8 u9
    obtain ⟨q, rfl⟩ : ∃ k, q = k + 1 := ⟨q - 1, by omega⟩
    have : d = n := by omega
    subst this
    refine ⟨u, ?_, u6, u7, u9, fun _ _ _ _ => rfl, fun _ _ _ _ => rfl, rfl, u8⟩
    unfold f_X1_land_L39
    rw [cmpI_ok (by omega), if_neg (by omega)]
  | succ i ih =>
    intro d q u h1 h2 u1 u2 u3 u4 u5 u6 u7 u8 u9
    obtain ⟨q, rfl⟩ : ∃ k, q = k + 1 := ⟨q - 1, by omega⟩
    have hd := hok d (by omega)
    have hw3 : 0 ≤ (Z d + T d) % 4 ∧ (Z d + T d) % 4 ≤ 3 := by omega
    have hs := cd_sp hd.1 hd.2 hw3
    have hr := cdZ_rng hd.1 hd.2 hw3
    generalize hcode : cdZ (X d) (Y d) ((Z d + T d) % 4) = code at *
    have hu2 : ∀ a, a ≠ 376 → (pI u 376 d code).1 a = u.1 a := fun a ha => pI_ne ha
    have hsp : (code / 4) % 4096 = (spt (X d) (Y d) : Int) := by omega
    have h8 := u8 (spt (X d) (Y d)) (by omega)
    -- one turn
    have hun : f_X1_land_L39 N K n (q + 1) d u = (if u.1 378 (spt (X d) (Y d)) - st < 0 then f_X1_land_L39 N K n q ((d + 1 : Nat) : Int) (pI (pI u 376 d code) 378 (spt (X d) (Y d)) (st + d)) else (if u.1 304 14 = 0 ∨ u.1 378 (spt (X d) (Y d)) - st < u.1 304 15 then f_X1_land_L39 N K n q ((d + 1 : Nat) : Int) (pI (pI (pI (pI u 376 d code) 304 14 5) 304 15 (u.1 378 (spt (X d) (Y d)) - st)) 304 16 d) else f_X1_land_L39 N K n q ((d + 1 : Nat) : Int) (pI u 376 d code))) := by
      conv => lhs; unfold f_X1_land_L39
      simp only [lt1_k, jn1_k, Int.toNat_natCast, u1, u2, u3, u5 d (by omega) (Nat.le_refl _)]
      rw [cmpI_ok (by omega), if_pos (by omega), ixI_ok (by omega), ixI_ok (by omega), ixI_ok (by omega), ixI_ok (by omega), h_codeOf hd.1 hd.2 hw3, bdI_s, hcode, ixI_ok (by omega), ixI_ok (by omega), pI_at, rnI_ok (by omega), hsp, ixI_ok (by omega)]
      simp only [Int.toNat_natCast, hu2 378 (by decide), hu2 304 (by decide), u4]
      rw [cmpI_ok (by omega), ixI_ok (by omega), show ((d : Int) + 1) = ((d + 1 : Nat) : Int) by omega]
      by_cases g1 : u.1 378 (spt (X d) (Y d)) - st < 0
      · rw [if_pos g1, if_pos g1]
      · rw [if_neg g1, if_neg g1, h_blame ⟨by decide, by decide⟩, bdI_s]
        have hw : inR (u.1 304 14) ∧ inR (u.1 304 15) ∨ (inR (u.1 304 14) ∧ u.1 304 14 = 0) := by
          rcases u9 with h9 | ⟨h9, p, qq, h10, h11, h12⟩
          · right; rw [h9.1]; exact ⟨⟨by decide, by decide⟩, rfl⟩
          · left
            have := h12.1
            have := h12.2.1
            rw [h9, h10]; exact ⟨⟨by decide, by decide⟩, by omega⟩
        rcases hw with hw | hw
        · rw [cmpI_ok ⟨hw.1, by decide, by decide⟩, cmpI_ok (by omega)]
          by_cases g2 : u.1 304 14 = 0
          · rw [if_pos g2, if_pos (Or.inl g2)]
          · rw [if_neg g2]
            by_cases g3 : u.1 378 (spt (X d) (Y d)) - st < u.1 304 15
            · rw [if_pos g3, if_pos (Or.inr g3)]
            · rw [if_neg g3, if_neg (fun h => h.elim g2 g3)]
        · rw [cmpI_ok ⟨hw.1, by decide, by decide⟩, if_pos hw.2, if_pos (Or.inl hw.2)]
    rw [hun]
    have hcodes : ∀ (x : St), x.1 376 = (pI u 376 d code).1 376 → (∀ e, e < n → d + 1 ≤ e → x.1 376 e = Z e) ∧ (∀ e, e < d + 1 → x.1 376 e = cdZ (X e) (Y e) ((Z e + T e) % 4)) := by
      intro x hx
      rw [hx]
      refine ⟨fun e h3 h4 => by rw [pI_nf (by omega)]; exact u5 e h3 (by omega), fun e he => ?_⟩
      by_cases hed : e = d
      · subst hed; rw [pI_at, hcode]
      · rw [pI_nf hed]; exact u6 e (by omega)
    by_cases g1 : u.1 378 (spt (X d) (Y d)) - st < 0
    · -- a free spot
      rw [if_pos g1]
      have hfree : ∀ e, e < d → spt (X e) (Y e) ≠ spt (X d) (Y d) := by
        rcases u7 (spt (X d) (Y d)) (by omega) with h9 | ⟨e, e1, e2, e3, e4⟩
        · exact h9.2
        · omega
      obtain ⟨hz1, hz2⟩ := hcodes (pI (pI u 376 d code) 378 (spt (X d) (Y d)) (st + d)) (by rw [pI_ne (by decide)])
      obtain ⟨w, w1, w2, w3, w4, w5, w6, w7, w8⟩ := ih (d + 1) q (pI (pI u 376 d code) 378 (spt (X d) (Y d)) (st + d)) (by omega) (by omega) (by rw [pI_ne (by decide), pI_ne (by decide)]; exact u1) (by rw [pI_ne (by decide), pI_ne (by decide)]; exact u2) (by rw [pI_ne (by decide), pI_ne (by decide)]; exact u3) (by rw [pI_ne (by decide), pI_ne (by decide)]; exact u4) hz1 hz2 (fun s hss => by
        by_cases hse : s = spt (X d) (Y d)
        · right
          refine ⟨d, by omega, hse.symm, by rw [hse, pI_at], fun x hx => by rw [hse]; exact hfree x hx⟩
        · rw [pI_nf hse, hu2 378 (by decide)]
          rcases u7 s hss with h9 | ⟨e, e1, e2, e3, e4⟩
          · left
            refine ⟨h9.1, fun e he => ?_⟩
            by_cases hed : e = d
            · rw [hed]; exact fun h => hse h.symm
            · exact h9.2 e (by omega)
          · right; exact ⟨e, by omega, e2, e3, e4⟩) (fun s hss => by
        by_cases hse : s = spt (X d) (Y d)
        · rw [hse, pI_at]; omega
        · rw [pI_nf hse, hu2 378 (by decide)]; exact u8 s hss) (by
        rw [pI_ne (by decide), hu2 304 (by decide)]
        rcases u9 with h9 | ⟨h9, p, qq, h10, h11, h12⟩
        · left
          refine ⟨h9.1, fun x y h3 h4 => ?_⟩
          by_cases hy : y = d
          · rw [hy]; exact hfree x (by omega)
          · exact h9.2 x y h3 (by omega)
        · right
          refine ⟨h9, p, qq, h10, h11, h12.1, by have := h12.2.1; omega, h12.2.2.1, fun x y h3 h4 h5 => ?_⟩
          by_cases hy : y = d
          · rw [hy] at h5 h3; exact absurd h5 (hfree x h3)
          · exact h12.2.2.2 x y h3 (by omega) h5)
      refine ⟨w, w1, w2, w3, w4, fun a h3 h4 h5 => ?_, fun b h3 h4 h5 => ?_, w7, w8⟩
      · rw [w5 a h3 h4 h5, pI_ne h4, pI_ne h3]
      · rw [w6 b h3 h4 h5, pI_ne (by decide), pI_ne (by decide)]
    · -- one is there
      rw [if_neg g1]
      have hthere : ∃ e, e < d ∧ spt (X e) (Y e) = spt (X d) (Y d) ∧ u.1 378 (spt (X d) (Y d)) - st = (e : Int) ∧ ∀ x, x < e → spt (X x) (Y x) ≠ spt (X d) (Y d) := by
        rcases u7 (spt (X d) (Y d)) (by omega) with h9 | ⟨e, e1, e2, e3, e4⟩
        · have := h9.1; omega
        · exact ⟨e, e1, e2, by omega, e4⟩
      obtain ⟨e, e1, e2, e3, e4⟩ := hthere
      have hl7 : lstO (u.1 378) st (fun e => spt (X e) (Y e)) (d + 1) := by
        intro s hss
        rcases u7 s hss with h9 | ⟨x, x1, x2, x3, x4⟩
        · left
          refine ⟨h9.1, fun y hy => ?_⟩
          by_cases hyd : y = d
          · rw [hyd]; intro h
            exact h9.2 e e1 (by rw [← h]; exact e2)
          · exact h9.2 y (by omega)
        · right; exact ⟨x, by omega, x2, x3, x4⟩
      by_cases g2 : u.1 304 14 = 0 ∨ u.1 378 (spt (X d) (Y d)) - st < u.1 304 15
      · rw [if_pos g2, e3]
        rw [e3] at g2
        obtain ⟨hz1, hz2⟩ := hcodes (pI (pI (pI (pI u 376 d code) 304 14 5) 304 15 (e : Int)) 304 16 d) (by rw [pI_ne (by decide), pI_ne (by decide), pI_ne (by decide)])
        obtain ⟨w, w1, w2, w3, w4, w5, w6, w7, w8⟩ := ih (d + 1) q (pI (pI (pI (pI u 376 d code) 304 14 5) 304 15 (e : Int)) 304 16 d) (by omega) (by omega) (by rw [pI_ne (by decide), pI_ne (by decide), pI_ne (by decide), pI_ne (by decide)]; exact u1) (by rw [pI_ne (by decide), pI_ne (by decide), pI_ne (by decide), pI_ne (by decide)]; exact u2) (by rw [pI_ne (by decide), pI_ne (by decide), pI_ne (by decide), pI_ne (by decide)]; exact u3) (by rw [pI_nf (by decide), pI_nf (by decide), pI_nf (by decide), pI_ne (by decide)]; exact u4) hz1 hz2 (by rw [pI_ne (by decide), pI_ne (by decide), pI_ne (by decide), hu2 378 (by decide)]; exact hl7) (by rw [pI_ne (by decide), pI_ne (by decide), pI_ne (by decide), hu2 378 (by decide)]; exact u8) (by
          right
          refine ⟨by rw [pI_nf (by decide), pI_nf (by decide), pI_at], e, d, by rw [pI_nf (by decide), pI_at], pI_at, e1, by omega, e2, fun x y h3 h4 h5 => ?_⟩
          by_cases hy : y = d
          · subst hy
            refine ⟨?_, fun _ => Nat.le_refl _⟩
            apply Classical.byContradiction
            intro h6
            exact e4 x (by omega) h5
          · rcases u9 with h9 | ⟨h9, p, qq, h10, h11, h12⟩
            · exact absurd h5 (h9.2 x y h3 (by omega))
            · have h13 := h12.2.2.2 x y h3 (by omega) h5
              rcases g2 with g2 | g2
              · omega
              · rw [h10] at g2
                exact ⟨by omega, fun h14 => by omega⟩)
        refine ⟨w, w1, w2, w3, w4, fun a h3 h4 h5 => ?_, fun b h3 h4 h5 => ?_, w7, w8⟩
        · rw [w5 a h3 h4 h5, pI_ne h5, pI_ne h5, pI_ne h5, pI_ne h3]
        · rw [w6 b h3 h4 h5, pI_nf h5, pI_nf h4, pI_nf h3, pI_ne (by decide)]
      · rw [if_neg g2]
        rw [e3] at g2
        obtain ⟨hz1, hz2⟩ := hcodes (pI u 376 d code) rfl
        obtain ⟨w, w1, w2, w3, w4, w5, w6, w7, w8⟩ := ih (d + 1) q (pI u 376 d code) (by omega) (by omega) (by rw [pI_ne (by decide)]; exact u1) (by rw [pI_ne (by decide)]; exact u2) (by rw [pI_ne (by decide)]; exact u3) (by rw [pI_ne (by decide)]; exact u4) hz1 hz2 (by rw [hu2 378 (by decide)]; exact hl7) (by rw [hu2 378 (by decide)]; exact u8) (by
          rw [hu2 304 (by decide)]
          rcases u9 with h9 | ⟨h9, p, qq, h10, h11, h12⟩
          · exact absurd (Or.inl h9.1) g2
          · right
            refine ⟨h9, p, qq, h10, h11, h12.1, by have := h12.2.1; omega, h12.2.2.1, fun x y h3 h4 h5 => ?_⟩
            by_cases hy : y = d
            · subst hy
              have hpe : p ≤ e := by
                apply Classical.byContradiction
                intro h6
                exact g2 (Or.inr (by rw [h10]; omega))
              have hex : e ≤ x := by
                apply Classical.byContradiction
                intro h6
                exact e4 x (by omega) h5
              have := h12.2.1
              exact ⟨by omega, fun _ => by omega⟩
            · exact h12.2.2.2 x y h3 (by omega) h5)
        refine ⟨w, w1, w2, w3, w4, fun a h3 h4 h5 => ?_, fun b h3 h4 h5 => ?_, w7, w8⟩
        · rw [w5 a h3 h4 h5, pI_ne h3]
        · rw [w6 b h3 h4 h5, pI_ne (by decide)]
