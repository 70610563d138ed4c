/-! reading in lock step: a name is kept -/
theorem pk8_cg {b b2 : Nat → Int} {L : Nat} : ∀ n, (∀ i, i < n → i < L → b i = b2 i) → pk8 b L n = pk8 b2 L n := by
  intro n
  induction n with
  | zero => intro _; rfl
  | succ n ih =>
    intro h
    unfold pk8
    rw [ih (fun i h1 h2 => h i (by omega) h2)]
    by_cases hn : n < L
    · rw [if_pos hn, if_pos hn, h n (by omega) hn]
    · rw [if_neg hn, if_neg hn]
theorem fmw_all {P : Nat → Bool} : ∀ d w : Nat, fmw P d w = -1 → ∀ k, w ≤ k → k < w + d → P k = false := by
  intro d
  induction d with
  | zero => intro w _ k h1 h2; omega
  | succ d ih =>
    intro w h k h1 h2
    unfold fmw at h
    by_cases hp : P w = true
    · rw [if_pos hp] at h; omega
    · rw [if_neg hp] at h
      by_cases hk : k = w
      · rw [hk]; exact Bool.eq_false_iff.mpr hp
      · exact ih (w + 1) h k (by omega) (by omega)
/-- the letters -/
theorem tl_lp {q L K : Nat} (hK : K < 200) (hL : L ≤ 24) (hq : q + L ≤ 4096) (K7 : St → Option St) : ∀ (d x n : Nat) (u : St), x + d = L → d < n → u.1 200 13 = K → ∃ u2 : St, f_X12_tell_L3 K7 q L n x u = K7 u2 ∧ (∀ a, a ≠ 9 → u2.1 a = u.1 a) ∧ (∀ b, (b < 24 * K + x ∨ 24 * K + L ≤ b) → u2.1 9 b = u.1 9 b) ∧ (∀ y, x ≤ y → y < L → u2.1 9 (24 * K + y) = b8 (u.1 0 (q + y))) ∧ u2.2 = u.2 := by
  intro d
  induction d with
  | zero =>
    intro x n u h1 h2 h3
    obtain ⟨n, rfl⟩ : ∃ k, n = k + 1 := ⟨n - 1, by omega⟩
    refine ⟨u, ?_, fun _ _ => rfl, fun _ _ => rfl, fun y z1 z2 => by omega, rfl⟩
    conv => lhs; unfold f_X12_tell_L3
    rw [cmpI_ok (by omega), if_neg (by omega)]
  | succ d ih =>
    intro x n u h1 h2 h3
    obtain ⟨n, rfl⟩ : ∃ k, n = k + 1 := ⟨n - 1, by omega⟩
    obtain ⟨u2, g1, g2, g3, g4, g5⟩ := ih (x + 1) n (pI u 9 (24 * K + x) (b8 (u.1 0 (q + x)))) (by omega) (by omega) (by rw [pI_ne (by decide)]; exact h3)
    refine ⟨u2, ?_, fun a ha => by rw [g2 a ha, pI_ne ha], fun b hb => by rw [g3 b (by omega), pI_nf (by omega)], fun y z1 z2 => ?_, g5⟩
    · conv => lhs; unfold f_X12_tell_L3
      rw [cmpI_ok (by omega), if_pos (by omega), lt1_k, h3, ixI_ok (by omega), lt1_k, show ((q : Int) + (x : Int)).toNat = q + x by omega, ixI_ok (by omega), lt1_k, show (24 * (K : Int) + (x : Int)).toNat = 24 * K + x by omega, show (x : Int) + 1 = ((x + 1 : Nat) : Int) by omega]
      exact g1
    · by_cases hy : y = x
      · subst hy
        rw [g3 (24 * K + y) (by omega), pI_at]
      · rw [g4 y (by omega) z2, pI_ne (by decide)]
/-- both sides know one name more -/
theorem nm_add {N : Nat} {t m : St} {B : Nat → Int} {e mm j s n : Nat} (hn : NmR t m) (hs : s < 3) (hT : TKs t B e mm) (hj : j < mm) (hX : mTx m B e) (h2 : tKnd B e (ch B e j) = 2) (hcnt : t.1 (312 + s) 2 = n) (hcap : t.1 (312 + s) 2 < t.1 (312 + s) 1) (hc3 : 3 * t.1 (312 + s) 1 ≤ (nmL s : Int)) (h13 : m.1 200 13 < 200)
    (hnew : fmw (nmb m (fun i => B (ch B e j + i)) (wnd B e (e - ch B e j) (ch B e j) - ch B e j)) (m.1 200 13).toNat 0 = -1) (hN : 5000 ≤ N) :
    ∃ t2 m2 : St, f_X6_add N s 335 12294 j t = some t2 ∧ f_X12_tell N s n (ch B e j) ((wnd B e (e - ch B e j) (ch B e j) - ch B e j : Nat) : Int) m = some m2 ∧ NmR t2 m2 ∧
      (t2.1 = (pI t (312 + s) 2 ((n + 1 : Nat) : Int)).1 ∧ ∀ a, a ≠ 340 + s → t2.2 a = t.2 a) ∧ ((∀ a, a ≠ 9 → a ≠ 10 → a ≠ 11 → a ≠ 12 → a ≠ 200 → m2.1 a = m.1 a) ∧ (∀ b, b ≠ 13 → m2.1 200 b = m.1 200 b) ∧ m2.1 200 13 = m.1 200 13 + 1 ∧ m2.2 = m.2) ∧ (∀ x, x < 3 * n → t2.2 (340 + s) x = t.2 (340 + s) x) ∧ (∀ b, b < 24 * (m.1 200 13).toNat → m2.1 9 b = m.1 9 b) ∧ (∀ k : Nat, (k : Int) ≠ m.1 200 13 → m2.1 10 k = m.1 10 k ∧ m2.1 11 k = m.1 11 k ∧ m2.1 12 k = m.1 12 k) := by
  have hk := kn_name h2
  have hTK := (hT.1 j (by omega)).2.2.2 hk.1 hk.2.1 hk.2.2
  have hmm := hT.2.2.2.2.2
  have hXe := hX.2.1
  have hwle := wnd_le (B := B) (e := e) (e - ch B e j) (ch B e j) (by omega)
  have hwc : ∀ i, i < wnd B e (e - ch B e j) (ch B e j) - ch B e j → 0 < B (ch B e j + i) ∧ B (ch B e j + i) < 128 := fun i hi => by
    have := wnd_wc (B := B) (e := e) (e - ch B e j) (ch B e j) (ch B e j + i) (by omega) (by omega)
    omega
  have hw1 : ch B e j < wnd B e (e - ch B e j) (ch B e j) := by
    rw [← wnd_q1 hk.1 hk.2.1]
    have := wnd_le (B := B) (e := e) (e - (ch B e j + 1)) (ch B e j + 1) (by omega)
    omega
  generalize hQ : ch B e j = q at *
  generalize hW : wnd B e (e - q) q = w at *
  obtain ⟨n1, n2, n3, n4, n5⟩ := hn
  obtain ⟨K, hK⟩ := Int.eq_ofNat_of_zero_le n1.1
  have hnl := nmL_rng s
  have hne := n2 s hs
  -- the hall
  have hH : f_X6_add N s 335 12294 j t = some (pI (cpL t 335 (340 + s) (3 * j) (3 * n) 3) (312 + s) 2 ((n + 1 : Nat) : Int)) := by
    unfold f_X6_add
    simp only [lt1_k]
    rw [cmpI_ok (by omega), if_pos hcap, cmpI_ok (by omega), if_neg (by omega), cmpI_ok (by omega), if_pos (by omega), hcnt]
    unfold cpI
    rw [if_pos (by omega), show (3 * (j : Int)).toNat = 3 * j by omega, show (3 * (n : Int)).toNat = 3 * n by omega]
    show some (pI (cpL t 335 (340 + s) (3 * j) (3 * n) 3) (312 + s) 2 (t.1 (312 + s) 2 + 1)) = _
    rw [hcnt]; rfl
  obtain ⟨u, g1, g2, g3, g4, g5⟩ := tl_lp (q := q) (L := w - q) (K := K) (by omega) hk.2.2 (by omega) (fun (t11 : St) => lt1 (t11.1 200 13) fun v12 => ixI v12 200 (lt1 (pI t11 10 v12.toNat (((w - q : Nat) : Nat) : Int)) fun t13 => lt1 (t13.1 200 13) fun v14 => ixI v14 200 (lt1 (pI t13 11 v14.toNat (s : Int)) fun t15 => lt1 (t15.1 200 13) fun v16 => ixI v16 200 (lt1 (pI t15 12 v16.toNat (n : Int)) fun t17 => lt1 (t17.1 200 13) fun v18 => lt1 (pI t17 200 13 (v18 + 1)) fun t19 => some t19)))) (w - q) 0 N m (by omega) (by omega) hK
  have u13 : u.1 200 13 = K := by rw [g2 200 (by decide)]; exact hK
  have hM : f_X12_tell N s n q ((w - q : Nat) : Int) m = some (pI (pI (pI (pI u 10 K ((w - q : Nat) : Int)) 11 K (s : Int)) 12 K (n : Int)) 200 13 ((K + 1 : Nat) : Int)) := by
    unfold f_X12_tell
    rw [show (0 : Int) = ((0 : Nat) : Int) from rfl, g1]
    simp only [lt1_k]
    rw [u13, ixI_ok (by omega), Int.toNat_natCast]
    rw [show (pI u 10 K ((w - q : Nat) : Int)).1 200 13 = K by rw [pI_ne (by decide)]; exact u13, ixI_ok (by omega), Int.toNat_natCast]
    rw [show (pI (pI u 10 K ((w - q : Nat) : Int)) 11 K (s : Int)).1 200 13 = K by rw [pI_ne (by decide), pI_ne (by decide)]; exact u13, ixI_ok (by omega), Int.toNat_natCast]
    rw [show (pI (pI (pI u 10 K ((w - q : Nat) : Int)) 11 K (s : Int)) 12 K (n : Int)).1 200 13 = K by rw [pI_ne (by decide), pI_ne (by decide), pI_ne (by decide)]; exact u13]
    rfl
  refine ⟨_, _, hH, hM, ?_, ⟨rfl, fun a ha => ?_⟩, ⟨fun a h1 h2 h3 h4 h5 => ?_, fun b hb => ?_, ?_, ?_⟩, fun x hx => ?_, fun b hb => ?_, fun k hk => ⟨?_, ?_, ?_⟩⟩
  · generalize hm2 : pI (pI (pI (pI u 10 K ((w - q : Nat) : Int)) 11 K (s : Int)) 12 K (n : Int)) 200 13 ((K + 1 : Nat) : Int) = m2
    generalize ht2 : pI (cpL t 335 (340 + s) (3 * j) (3 * n) 3) (312 + s) 2 ((n + 1 : Nat) : Int) = t2
    have e13 : m2.1 200 13 = ((K + 1 : Nat) : Int) := by rw [← hm2, pI_at]
    have e9 : m2.1 9 = u.1 9 := by rw [← hm2, pI_ne (by decide), pI_ne (by decide), pI_ne (by decide), pI_ne (by decide)]
    have e10 : ∀ k, k ≠ K → m2.1 10 k = m.1 10 k := fun k hk => by rw [← hm2, pI_ne (by decide), pI_ne (by decide), pI_ne (by decide), pI_nf hk, g2 10 (by decide)]
    have e11 : ∀ k, k ≠ K → m2.1 11 k = m.1 11 k := fun k hk => by rw [← hm2, pI_ne (by decide), pI_ne (by decide), pI_nf hk, pI_ne (by decide), g2 11 (by decide)]
    have e12 : ∀ k, k ≠ K → m2.1 12 k = m.1 12 k := fun k hk => by rw [← hm2, pI_ne (by decide), pI_nf hk, pI_ne (by decide), pI_ne (by decide), g2 12 (by decide)]
    have f10 : m2.1 10 K = ((w - q : Nat) : Int) := by rw [← hm2, pI_ne (by decide), pI_ne (by decide), pI_ne (by decide), pI_at]
    have f11 : m2.1 11 K = s := by rw [← hm2, pI_ne (by decide), pI_ne (by decide), pI_at]
    have f12 : m2.1 12 K = n := by rw [← hm2, pI_ne (by decide), pI_at]
    have lk : ∀ k, k ≠ K → nmLen m2 k = nmLen m k := fun k hk => by unfold nmLen; rw [e10 k hk]
    have lK : nmLen m2 K = w - q := by unfold nmLen; rw [f10]; omega
    have wk : ∀ k i, k < K → i < 24 → nmW m2 k i = nmW m k i := fun k i hk hi => by unfold nmW; rw [e9, g3 (24 * k + i) (by omega)]
    have wK : ∀ i, i < w - q → nmW m2 K i = B (q + i) := fun i hi => by
      unfold nmW
      rw [e9, g4 i (by omega) hi]
      have hb := hX.2.2 (q + i) (by omega)
      have hr := hwc i hi
      unfold b8
      omega
    have cs : t2.1 (312 + s) 2 = ((n + 1 : Nat) : Int) := by rw [← ht2, pI_at]
    have co : ∀ o, o ≠ s → t2.1 (312 + o) 2 = t.1 (312 + o) 2 := fun o ho => by
      rw [← ht2, pI_ne (by omega)]; rfl
    have l2 : ∀ s2 x, (s2 ≠ s ∨ x < 3 * n) → t2.2 (340 + s2) x = t.2 (340 + s2) x := fun s2 x hx => by
      rw [← ht2, pI_L]
      by_cases h9 : s2 = s
      · subst h9
        rw [cpL_at, pk_cpy_out (by omega)]
      · rw [cpL_ne (by omega)]
    have l3 : ∀ y, y < 3 → t2.2 (340 + s) (3 * n + y) = t.2 335 (3 * j + y) := fun y hy => by
      rw [← ht2, pI_L, cpL_at, pk_cpy_in (by omega) (by omega), show 3 * j + (3 * n + y - 3 * n) = 3 * j + y by omega]
    have hle : ∀ k : Nat, (k : Int) < m.1 200 13 → nmLen m k ≤ 24 := fun k hk => by
      have := (n3 k hk).1
      unfold nmLen; omega
    refine ⟨by rw [e13]; omega, fun o ho => ?_, fun k hk => ?_, fun s2 n9 hs2 hn9 => ?_, fun k l hk hl hlen hlet => ?_⟩
    · by_cases h9 : o = s
      · subst h9; rw [cs]; omega
      · rw [co o h9]; exact n2 o ho
    · rw [e13] at hk
      by_cases hkK : k = K
      · subst hkK
        refine ⟨by rw [f10]; omega, fun i hi => by rw [lK] at hi; rw [wK i hi]; exact hwc i hi, s, n, hs, f11, f12, by rw [cs]; omega, fun y hy => ?_⟩
        rw [l3 y hy, hTK y hy, lt3_p, lK]
        refine congrArg Int64.ofNat (pk8_cg 8 (fun i h1 h2 => ?_))
        show B (q + (8 * y + i)) = nmW m2 k (8 * y + i)
        rw [wK (8 * y + i) (by omega)]
      · obtain ⟨a1, a2, s9, n9, b1, b2, b3, b4, b5⟩ := n3 k (by omega)
        have h24 := hle k (by omega)
        refine ⟨by rw [e10 k hkK]; exact a1, fun i hi => by rw [lk k hkK] at hi; rw [wk k i (by omega) (by omega)]; exact a2 i hi, s9, n9, b1, by rw [e11 k hkK]; exact b2, by rw [e12 k hkK]; exact b3, ?_, fun y hy => ?_⟩
        · by_cases h9 : s9 = s
          · subst h9; rw [cs]; omega
          · rw [co s9 h9]; exact b4
        · rw [l2 s9 (3 * n9 + y) (by
            by_cases h9 : s9 = s
            · subst h9; right; omega
            · exact Or.inl h9), b5 y hy, lk k hkK]
          refine congrArg Int64.ofNat (pk8_cg 8 (fun i h1 h2 => ?_))
          show nmW m k (8 * y + i) = nmW m2 k (8 * y + i)
          rw [wk k (8 * y + i) (by omega) (by omega)]
    · by_cases h9 : s2 = s
      · subst h9
        rw [cs] at hn9
        by_cases h8 : n9 = n
        · subst h8; exact ⟨K, by rw [e13]; omega, f11, f12⟩
        · obtain ⟨k, q1, q2, q3⟩ := n4 s2 n9 hs2 (by omega)
          exact ⟨k, by rw [e13]; omega, by rw [e11 k (by omega)]; exact q2, by rw [e12 k (by omega)]; exact q3⟩
      · rw [co s2 h9] at hn9
        obtain ⟨k, q1, q2, q3⟩ := n4 s2 n9 hs2 hn9
        exact ⟨k, by rw [e13]; omega, by rw [e11 k (by omega)]; exact q2, by rw [e12 k (by omega)]; exact q3⟩
    · rw [e13] at hk hl
      have hno : ∀ l : Nat, l < K → nmLen m l = w - q → (∀ i, i < w - q → nmW m l i = B (q + i)) → False := fun l hl z1 z2 => by
        have := fmw_all _ _ hnew l (by omega) (by omega)
        have h9 : nmb m (fun i => B (q + i)) (w - q) l = true := nmb_nmt.mpr ⟨z1, z2⟩
        rw [this] at h9
        exact absurd h9 (by decide)
      by_cases hkK : k = K
      · by_cases hlK : l = K
        · omega
        · exfalso
          subst hkK
          rw [lK, lk l hlK] at hlen
          refine hno l (by omega) hlen.symm (fun i hi => ?_)
          rw [← wk l i (by omega) (by omega), ← hlet i (by omega), wK i hi]
      · by_cases hlK : l = K
        · exfalso
          subst hlK
          rw [lK, lk k hkK] at hlen
          refine hno k (by omega) hlen (fun i hi => ?_)
          rw [← wk k i (by omega) (by omega), hlet i (by rw [lk k hkK]; omega), wK i hi]
        · rw [lk k hkK, lk l hlK] at hlen
          have h24 := hle k (by omega)
          refine n5 k l (by omega) (by omega) hlen (fun i hi => ?_)
          rw [← wk k i (by omega) (by omega), ← wk l i (by omega) (by omega)]
          exact hlet i (by rw [lk k hkK]; exact hi)
  · rw [pI_L, cpL_ne ha]
  · rw [pI_ne h5, pI_ne h4, pI_ne h3, pI_ne h2, g2 a h1]
  · rw [pI_nf hb, pI_ne (by decide), pI_ne (by decide), pI_ne (by decide), g2 200 (by decide)]
  · rw [pI_at, hK]; rfl
  · exact g5
  · rw [pI_L, cpL_at, pk_cpy_out (by omega)]
  · rw [pI_ne (by decide), pI_ne (by decide), pI_ne (by decide), pI_ne (by decide), g3 b (by omega)]
  · rw [pI_ne (by decide), pI_ne (by decide), pI_ne (by decide), pI_nf (by omega), g2 10 (by decide)]
  · rw [pI_ne (by decide), pI_ne (by decide), pI_nf (by omega), pI_ne (by decide), g2 11 (by decide)]
  · rw [pI_ne (by decide), pI_nf (by omega), pI_ne (by decide), pI_ne (by decide), g2 12 (by decide)]
