/-! searching: all levels -/
theorem SHg.k {t u : St} (e1 : u.1 = t.1) (e2 : ∀ a, a ≠ 436 → u.2 a = t.2 a) : SHg t u := ⟨fun x _ _ _ _ _ _ _ _ _ _ => by rw [e1], fun b _ => by rw [e1], fun b _ _ => by rw [e1], fun y _ _ => by rw [e1], fun b _ _ _ => by rw [e1], fun x _ _ _ _ _ _ h7 => e2 x h7⟩
theorem LEV.k {n w l S e : Nat} {pl B : Nat → Nat} {t u m : St} (h : LEV n w l S e pl B t m) (e1 : u.1 = t.1) (e2 : ∀ a, a ≠ 436 → u.2 a = t.2 a) : LEV n w l S e pl B u m := by
  obtain ⟨⟨hW, hC, hF⟩, hV, hb, h433, hlev⟩ := h
  exact ⟨⟨hW.sg (SHg.k e1 e2) (by rw [e1]) (by rw [e1]) (by rw [e1]) (e2 430 (by decide)) ⟨by rw [e1], by rw [e1]⟩, hC.ch (fun x _ => by rw [e1]) (e2 311 (by decide)), hF.c (fun x _ => by rw [e1])⟩, hV.t (by rw [e1]), hb, fun k hk => by rw [e1]; exact h433 k hk, hlev⟩
/-- the model's end of a search -/
def kSr : Int → St → Option (Int × St) := fun k16 t17 => lt1 (t17.1 200 99) fun v18 => cmpI v18 (-1) (if v18 = (-1) then (some ((-1), t17)) else (some (k16, t17)))
section
variable {N n w most : Nat}
/-- the hall at one level -/
theorem ex_it {l S e : Nat} {pl B : Nat → Nat} {t m : St} (hN : 100000 ≤ N) (hn : 1 ≤ n ∧ n ≤ 16) (hl : l ≤ most) (hm : most ≤ 12) (h : LEV n w l S e pl B t m) (hn8 : t.1 (305 + 0) 8 = n) (hA : ∀ d, d < n → t.1 320 d = cdZ (m.1 47 d) (m.1 48 d) (m.1 49 d) ∧ m.1 47 d ≤ 60 ∧ m.1 48 d ≤ 60) :
    ∃ u : St, LEV n w l S e pl B u m ∧ u.1 = t.1 ∧ SHg t u ∧
      ((m.1 200 99 = -1 ∧ (∀ s, s < S → ¬ aimR m n s) ∧ (l = most → ∀ K17 K18 (q : Nat), f_X9_explore_L78 N 0 320 64 K17 K18 most (q + 1) l t = some (-1, u)) ∧ (l < most → B l = S → ∀ K17 K18 (q : Nat), f_X9_explore_L78 N 0 320 64 K17 K18 most (q + 1) l t = some (-1, u)) ∧ (l < most → B l < S → ∀ K17 K18 (q : Nat), f_X9_explore_L78 N 0 320 64 K17 K18 most (q + 1) l t = bdI (f_X9_widen N l n u) fun v28 t27 => cmpI v28 0 (if v28 = 0 then (some ((-2), t27)) else (f_X9_explore_L78 N 0 320 64 K17 K18 most q ((l + 1 : Nat) : Int) t27)))) ∨
       ∃ a : Nat, a < S ∧ m.1 200 99 = a ∧ aimR m n a ∧ ∀ K17 K18 (q : Nat), f_X9_explore_L78 N 0 320 64 K17 K18 most (q + 1) l t = K17 l a u) := by
  obtain ⟨u, p, a1, a2, a3, a4, a5, a6⟩ := aim_look (N := N) hn.2 h.1.1 hA (by omega)
  have hS := h.1.1.1.2.2.1.1
  have h11 := h.1.1.1.2.2.2.1.1
  have h433 := h.2.2.2.1
  have hBl : B l ≤ S := by have := (h.2.2.2.2 l (Nat.le_refl _)).1; have := h.2.2.1.2.2; omega
  have hgo : ∀ K17 K18 (q : Nat), f_X9_explore_L78 N 0 320 64 K17 K18 most (q + 1) l t = ixI (p : Int) 4096 (cmpI (t.1 431 p - 1) 0 (if (t.1 431 p - 1) < 0 then (cmpI (l : Int) most (if (l : Int) = most then (some ((-1), u)) else (ixI (l : Int) 15 (cmpI (t.1 433 l) (t.1 310 11) (if t.1 433 l = t.1 310 11 then (some ((-1), u)) else (bdI (f_X9_widen N l n u) fun v28 t27 => cmpI v28 0 (if v28 = 0 then (some ((-2), t27)) else (f_X9_explore_L78 N 0 320 64 K17 K18 most q ((l : Int) + 1) t27))))))))
    else (K17 l (t.1 431 p - 1) u))) := by
    intro K17 K18 q
    conv => lhs; unfold f_X9_explore_L78
    simp only [lt1_k, jn1_k]
    rw [cmpI_ok (by omega), if_neg (by omega), cmpI_ok (by omega), if_neg (by omega), hn8, a1, bdV_s, a2, bdI_s, Int.toNat_natCast, Int.toNat_natCast, a4, hn8]
  refine ⟨u, h.k a4 a5, a4, SHg.k a4 a5, ?_⟩
  rcases a6 with ⟨b1, b2, b3⟩ | ⟨a, b1, b2, b3, b4⟩
  · left
    refine ⟨b1, b3, fun hl2 K17 K18 q => ?_, fun hl2 hB K17 K18 q => ?_, fun hl2 hB K17 K18 q => ?_⟩
    · rw [hgo, b2, ixI_ok (by omega), cmpI_ok (by omega), if_pos (by omega), cmpI_ok (by omega), if_pos (by omega)]
    · rw [hgo, b2, ixI_ok (by omega), cmpI_ok (by omega), if_pos (by omega), cmpI_ok (by omega), if_neg (by omega), ixI_ok (by omega), h433 l (by omega), h11, hB, cmpI_ok (by omega), if_pos rfl]
    · rw [hgo, b2, ixI_ok (by omega), cmpI_ok (by omega), if_pos (by omega), cmpI_ok (by omega), if_neg (by omega), ixI_ok (by omega), h433 l (by omega), h11, cmpI_ok (by omega), if_neg (by omega), show (l : Int) + 1 = ((l + 1 : Nat) : Int) by omega]
  · right
    refine ⟨a, b1, b2, b3, fun K17 K18 q => ?_⟩
    rw [hgo, b4, ixI_ok (by omega), cmpI_ok (by omega), if_neg (by omega), show ((a + 1 : Nat) : Int) - 1 = (a : Int) by omega]
theorem aimR.sm {s S : Nat} {m v : St} (g : SMf m v) (hs : s < S) (e : ∀ y, y < 16 * S → v.1 92 y = m.1 92 y) (hn : n ≤ 16) : aimR v n s ↔ aimR m n s := by
  unfold aimR
  rw [g.1 47 (by omega) (by omega) (by omega) (by omega) (by omega) (by omega), g.1 48 (by omega) (by omega) (by omega) (by omega) (by omega) (by omega), g.1 49 (by omega) (by omega) (by omega) (by omega) (by omega) (by omega)]
  constructor
  · intro h d hd; rw [← h d hd, e _ (by omega)]
  · intro h d hd; rw [← h d hd, e _ (by omega)]
set_option maxHeartbeats 1000000 in
/-- both search level by level, and come to the same end -/
theorem ex_lp (hN : 100000 ≤ N) (hn : 1 ≤ n ∧ n ≤ 16) (hm : most ≤ 12) : ∀ (i l S e : Nat) (pl B : Nat → Nat) (t m : St), l + i = most → LEV n w l S e pl B t m → B l < S → t.1 (305 + 0) 8 = n → (∀ d, d < n → t.1 320 d = cdZ (m.1 47 d) (m.1 48 d) (m.1 49 d) ∧ m.1 47 d ≤ 60 ∧ m.1 48 d ≤ 60) → (∀ z, z < B l → ¬ aimR m n z) → t.1 304 11 + 2048 * (2000 - B l : Nat) ≤ 1900000000 → (0 ≤ t.1 306 9 ∧ t.1 306 9 + (2000 - B l : Nat) ≤ 2000000000) →
    ∃ (u v : St) (S2 e2 : Nat) (pl2 : Nat → Nat), SHg t u ∧ SMf m v ∧ CIk u ∧ FLr 1 u ∧ u.1 304 11 ≤ t.1 304 11 + 2048 * (S2 - B l : Nat) ∧ (0 ≤ u.1 306 9 ∧ u.1 306 9 ≤ t.1 306 9 + (S2 - B l : Nat)) ∧ WDr n w S2 e2 pl2 u v ∧ S ≤ S2 ∧ e2 + S = e + S2 ∧
      ((∃ a : Int, (a = -1 ∨ a = -2) ∧ ∀ K17 K18 (q r : Nat), f_X9_explore_L78 N 0 320 64 K17 K18 most (q + i + 1) l t = some (a, u) ∧ f_X12_searches_L31 N kSr most (r + i + 1) l m = some (a, v)) ∨
       (∃ (L a : Nat) (B2 : Nat → Nat), L ≤ most ∧ a < S2 ∧ B2 L ≤ a ∧ v.1 200 99 = a ∧ LEV n w L S2 e2 pl2 B2 u v ∧ ∀ K17 K18 (q r : Nat), f_X9_explore_L78 N 0 320 64 K17 K18 most (q + i + 1) l t = K17 L a u ∧ f_X12_searches_L31 N kSr most (r + i + 1) l m = some ((L : Int), v))) := by
  intro i
  induction i with
  | zero =>
    intro l S e pl B t m hl h hB hn8 hA hna hb hv
    have hS := h.1.1.1.2.2.1.1
    obtain ⟨u, a1, a2, a3, a4⟩ := ex_it (N := N) (most := most) hN hn (by omega) hm h hn8 hA
    refine ⟨u, m, S, e, pl, a3, SMf.rf, a1.1.2.1, a1.1.2.2, by rw [a2]; omega, by rw [a2]; omega, a1.1.1, Nat.le_refl _, rfl, ?_⟩
    rcases a4 with ⟨b1, b2, b3, _, _⟩ | ⟨a, b1, b2, b3, b4⟩
    · left
      refine ⟨-1, Or.inl rfl, fun K17 K18 q r => ⟨b3 (by omega) K17 K18 q, ?_⟩⟩
      unfold f_X12_searches_L31 kSr
      simp only [lt1_k]
      rw [b1, cmpI_ok (by omega), if_pos rfl, cmpI_ok (by omega), if_neg (by omega), cmpI_ok (by omega), if_pos rfl]
    · right
      refine ⟨l, a, B, by omega, b1, ?_, b2, a1, fun K17 K18 q r => ⟨b4 K17 K18 q, ?_⟩⟩
      · by_cases hx : B l ≤ a
        · exact hx
        · exact absurd b3 (hna a (by omega))
      · unfold f_X12_searches_L31 kSr
        simp only [lt1_k]
        rw [b2, cmpI_ok (by omega), if_neg (by omega), cmpI_ok (by omega), if_neg (by omega)]
  | succ i ih =>
    intro l S e pl B t m hl h hB hn8 hA hna hb hv
    have hS := h.1.1.1.2.2.1.1
    obtain ⟨u, a1, a2, a3, a4⟩ := ex_it (N := N) (most := most) hN hn (by omega) hm h hn8 hA
    rcases a4 with ⟨b1, b2, _, _, b3⟩ | ⟨a, b1, b2, b3, b4⟩
    · obtain ⟨u2, v2, S2, e2, pl2, c1, c2, c3, c4, c5, c6, c7, c8, c9, c10⟩ := level_both (N := N) hN hn (by omega) a1 (by rw [a2]; omega) (by rw [a2]; omega)
      rw [a2] at c5 c6
      have hS2 := c7.1.2.2.1.1
      have h90 : m.1 200 90 = S := h.1.1.1.2.2.2.1.2
      have h902 : v2.1 200 90 = S2 := c7.1.2.2.2.1.2
      have hmo : ∀ (r : Nat), f_X12_searches_L31 N kSr most (r + (i + 1) + 1) l m = bdI (f_X12_levelBehind N l m) fun v14 t13 => cmpI v14 0 (if v14 = 0 then (some ((-2), t13)) else (cmpI (t13.1 200 90) S (if t13.1 200 90 = S then (some ((-1), t13)) else (f_X12_searches_L31 N kSr most (r + i + 1) ((l + 1 : Nat) : Int) t13)))) := by
        intro r
        conv => lhs; unfold f_X12_searches_L31
        simp only [lt1_k]
        rw [b1, cmpI_ok (by omega), if_pos rfl, cmpI_ok (by omega), if_pos (by omega), h90, show (l : Int) + 1 = ((l + 1 : Nat) : Int) by omega]
        rfl
      rcases c10 with ⟨d1, d2⟩ | ⟨d1, d2, d3, d4⟩
      · refine ⟨u2, v2, S2, e2, pl2, a3.tr c1, c2, c3, c4, by omega, by omega, c7, c8, c9, Or.inl ⟨-2, Or.inr rfl, fun K17 K18 q r => ⟨?_, ?_⟩⟩⟩
        · rw [b3 (by omega) hB, d1, bdI_s, cmpI_ok (by omega), if_pos rfl]
        · rw [hmo, d2, bdI_s, cmpI_ok (by omega), if_pos rfl]
      · have hn82 : u2.1 (305 + 0) 8 = n := by rw [(a3.tr c1).1 (305 + 0) (by decide) (by decide) (by decide) (by decide) (by decide) (by decide) (by decide) (by decide) (by decide) (by decide)]; exact hn8
        have hA2 : ∀ d, d < n → u2.1 320 d = cdZ (v2.1 47 d) (v2.1 48 d) (v2.1 49 d) ∧ v2.1 47 d ≤ 60 ∧ v2.1 48 d ≤ 60 := by
          rw [(a3.tr c1).1 320 (by decide) (by decide) (by decide) (by decide) (by decide) (by decide) (by decide) (by decide) (by decide) (by decide), c2.1 47 (by omega) (by omega) (by omega) (by omega) (by omega) (by omega), c2.1 48 (by omega) (by omega) (by omega) (by omega) (by omega) (by omega), c2.1 49 (by omega) (by omega) (by omega) (by omega) (by omega) (by omega)]
          exact hA
        have hBn : (if l + 1 = l + 2 then S2 else B (l + 1)) = S := by rw [if_neg (by omega)]; exact h.2.2.1.2.2
        have hna2 : ∀ z, z < S → ¬ aimR v2 n z := fun z hz hr => b2 z hz ((aimR.sm c2 hz d4 hn.2).mp hr)
        by_cases hnew : S2 = S
        · -- nothing new
          obtain ⟨u3, f1, f2, f3, f4⟩ := ex_it (N := N) (most := most) hN hn (by omega) hm d3 hn82 hA2
          rcases f4 with ⟨_, _, g3, g4, _⟩ | ⟨a, g1, g2, g3, _⟩
          · refine ⟨u3, v2, S2, e2, pl2, (a3.tr c1).tr f3, c2, f1.1.2.1, f1.1.2.2, by rw [f2]; omega, by rw [f2]; omega, f1.1.1, c8, c9, Or.inl ⟨-1, Or.inl rfl, fun K17 K18 q r => ⟨?_, ?_⟩⟩⟩
            · rw [b3 (by omega) hB, d1, bdI_s, cmpI_ok (by omega), if_neg (by omega)]
              by_cases hlm : l + 1 = most
              · exact g3 hlm K17 K18 (q + i)
              · exact g4 (by omega) (by show (if l + 1 = l + 2 then S2 else B (l + 1)) = S2; rw [hBn, hnew]) K17 K18 (q + i)
            · rw [hmo, d2, bdI_s, cmpI_ok (by omega), if_neg (by omega), h902, cmpI_ok (by omega), if_pos (by omega)]
          · exact absurd g3 (hna2 a (by omega))
        · obtain ⟨u3, v3, S3, e3, pl3, j1, j2, j3, j4, j5, j6, j7, j8, j9, j10⟩ := ih (l + 1) S2 e2 pl2 (fun k => if k = l + 2 then S2 else B k) u2 v2 (by omega) d3 (by show (if l + 1 = l + 2 then S2 else B (l + 1)) < S2; rw [hBn]; omega) hn82 hA2 (by show ∀ z, z < (if l + 1 = l + 2 then S2 else B (l + 1)) → ¬ aimR v2 n z; rw [hBn]; exact hna2) (by show u2.1 304 11 + 2048 * ((2000 - (if l + 1 = l + 2 then S2 else B (l + 1)) : Nat) : Int) ≤ 1900000000; rw [hBn]; omega) (by show 0 ≤ u2.1 306 9 ∧ u2.1 306 9 + ((2000 - (if l + 1 = l + 2 then S2 else B (l + 1)) : Nat) : Int) ≤ 2000000000; rw [hBn]; omega)
          have hS3 := j7.1.2.2.1.1
          rw [hBn] at j5 j6
          refine ⟨u3, v3, S3, e3, pl3, (a3.tr c1).tr j1, c2.tr j2, j3, j4, by omega, by omega, j7, by omega, by omega, ?_⟩
          have hh : ∀ K17 K18 (q : Nat), f_X9_explore_L78 N 0 320 64 K17 K18 most (q + (i + 1) + 1) l t = f_X9_explore_L78 N 0 320 64 K17 K18 most (q + i + 1) ((l + 1 : Nat) : Int) u2 := fun K17 K18 q => by
            rw [b3 (by omega) hB, d1, bdI_s, cmpI_ok (by omega), if_neg (by omega)]
            rfl
          have hmm : ∀ r : Nat, f_X12_searches_L31 N kSr most (r + (i + 1) + 1) l m = f_X12_searches_L31 N kSr most (r + i + 1) ((l + 1 : Nat) : Int) v2 := fun r => by
            rw [hmo, d2, bdI_s, cmpI_ok (by omega), if_neg (by omega), h902, cmpI_ok (by omega), if_neg (by omega)]
          rcases j10 with ⟨a, k1, k2⟩ | ⟨L, a, B2, k1, k2, k3, k4, k5, k6⟩
          · exact Or.inl ⟨a, k1, fun K17 K18 q r => ⟨(hh K17 K18 q).trans (k2 K17 K18 q r).1, (hmm r).trans (k2 K17 K18 q r).2⟩⟩
          · exact Or.inr ⟨L, a, B2, k1, k2, k3, k4, k5, fun K17 K18 q r => ⟨(hh K17 K18 q).trans (k6 K17 K18 q r).1, (hmm r).trans (k6 K17 K18 q r).2⟩⟩
    · refine ⟨u, m, S, e, pl, a3, SMf.rf, a1.1.2.1, a1.1.2.2, by rw [a2]; omega, by rw [a2]; omega, a1.1.1, Nat.le_refl _, rfl, Or.inr ⟨l, a, B, by omega, b1, ?_, b2, a1, fun K17 K18 q r => ⟨b4 K17 K18 (q + (i + 1)), ?_⟩⟩⟩
      · by_cases hx : B l ≤ a
        · exact hx
        · exact absurd b3 (hna a (by omega))
      · unfold f_X12_searches_L31 kSr
        simp only [lt1_k]
        rw [b2, cmpI_ok (by omega), if_neg (by omega), cmpI_ok (by omega), if_neg (by omega)]
end
