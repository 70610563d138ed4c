/-! names on both sides -/
theorem p24 {a b : Nat → Int} {La Lb : Nat} (h1 : La ≤ 24) (h2 : Lb ≤ 24) (ha : ∀ i, i < La → 0 < a i ∧ a i < 256) (hb : ∀ i, i < Lb → 0 < b i ∧ b i < 256) :
    (∀ j, j < 3 → Int64.ofNat (pk8 (fun i => a (8 * j + i)) (La - 8 * j) 8) = Int64.ofNat (pk8 (fun i => b (8 * j + i)) (Lb - 8 * j) 8)) ↔ (La = Lb ∧ ∀ i, i < La → a i = b i) := by
  have hA : ∀ j i, i < La - 8 * j → 0 ≤ a (8 * j + i) ∧ a (8 * j + i) < 256 := fun j i hi => by have := ha (8 * j + i) (by omega); omega
  have hB : ∀ j i, i < Lb - 8 * j → 0 ≤ b (8 * j + i) ∧ b (8 * j + i) < 256 := fun j i hi => by have := hb (8 * j + i) (by omega); omega
  constructor
  · intro h
    have key : ∀ k, k < 24 → (if k < La then (a k).toNat else 0) = (if k < Lb then (b k).toNat else 0) := by
      intro k hk
      have hj := ofN_inj (Nat.lt_of_lt_of_le (pk8_lt (fun i hi => hA (k / 8) i hi) 8) (by decide)) (Nat.lt_of_lt_of_le (pk8_lt (fun i hi => hB (k / 8) i hi) 8) (by decide)) (h (k / 8) (by omega))
      have hd := (pk8_inj (fun i hi => hA (k / 8) i hi) (fun i hi => hB (k / 8) i hi) 8).mp hj (k % 8) (by omega)
      have e1 : 8 * (k / 8) + k % 8 = k := by omega
      have c1 : (k % 8 < La - 8 * (k / 8)) ↔ k < La := by omega
      have c2 : (k % 8 < Lb - 8 * (k / 8)) ↔ k < Lb := by omega
      simp only [e1, c1, c2] at hd
      exact hd
    have hl : La = Lb := by
      rcases Nat.lt_trichotomy La Lb with q | q | q
      · have := key La (by omega)
        have h3 := hb La q
        rw [if_neg (by omega), if_pos q] at this
        omega
      · exact q
      · have := key Lb (by omega)
        have h3 := ha Lb q
        rw [if_pos q, if_neg (by omega)] at this
        omega
    refine ⟨hl, fun i hi => ?_⟩
    have := key i (by omega)
    have h3 := ha i hi
    have h4 := hb i (by omega)
    rw [if_pos hi, if_pos (by omega)] at this
    omega
  · intro h j hj
    refine congrArg Int64.ofNat ?_
    rw [pk8_inj (fun i hi => hA j i hi) (fun i hi => hB j i hi)]
    intro i hi
    rw [h.1]
    by_cases q : i < Lb - 8 * j
    · rw [if_pos q, if_pos q, h.2 (8 * j + i) (by omega)]
    · rw [if_neg q, if_neg q]
theorem lt3_p {B : Nat → Int} {q w j : Nat} : lt3 B q w j = Int64.ofNat (pk8 (fun i => B (q + (8 * j + i))) (w - q - 8 * j) 8) := by
  unfold lt3
  rw [show w - (q + 8 * j) = w - q - 8 * j from by omega]
  congr 2
  funext i
  rw [Nat.add_assoc]
/-- the model's k-th name: its letters and their number -/
def nmW (m : St) (k : Nat) : Nat → Int := fun i => m.1 9 (24 * k + i)
def nmLen (m : St) (k : Nat) : Nat := (m.1 10 k).toNat
/-- both sides know the same names -/
def NmR (t m : St) : Prop :=
  (0 ≤ m.1 200 13 ∧ m.1 200 13 ≤ 200) ∧
  (∀ o : Nat, o < 3 → 0 ≤ t.1 (312 + o) 2 ∧ 3 * t.1 (312 + o) 2 ≤ (nmL o : Int)) ∧
  (∀ k : Nat, (k : Int) < m.1 200 13 → (1 ≤ m.1 10 k ∧ m.1 10 k ≤ 24) ∧ (∀ i, i < nmLen m k → 0 < nmW m k i ∧ nmW m k i < 128) ∧
    ∃ s n : Nat, s < 3 ∧ m.1 11 k = s ∧ m.1 12 k = n ∧ (n : Int) < t.1 (312 + s) 2 ∧ ∀ j, j < 3 → t.2 (340 + s) (3 * n + j) = Int64.ofNat (pk8 (fun i => nmW m k (8 * j + i)) (nmLen m k - 8 * j) 8)) ∧
  (∀ s n : Nat, s < 3 → (n : Int) < t.1 (312 + s) 2 → ∃ k : Nat, (k : Int) < m.1 200 13 ∧ m.1 11 k = s ∧ m.1 12 k = n) ∧
  (∀ k l : Nat, (k : Int) < m.1 200 13 → (l : Int) < m.1 200 13 → nmLen m k = nmLen m l → (∀ i, i < nmLen m k → nmW m k i = nmW m l i) → k = l)
def nmt (m : St) (b : Nat → Int) (L k : Nat) : Prop := nmLen m k = L ∧ ∀ i, i < L → nmW m k i = b i
def nmb (m : St) (b : Nat → Int) (L k : Nat) : Bool := decide (nmLen m k = L) && (cmpw (nmW m k) b L 0 == 1)
theorem nmb_nmt {m : St} {b : Nat → Int} {L k : Nat} : nmb m b L k = true ↔ nmt m b L k := by
  unfold nmb nmt
  rw [Bool.and_eq_true, decide_eq_true_iff, beq_iff_eq, cmpw_1]
  exact ⟨fun q => ⟨q.1, fun i hi => q.2 i (by omega) (by omega)⟩, fun q => ⟨q.1, fun j _ hj => q.2 j (by omega)⟩⟩
theorem s_namc {t : St} {p L k : Nat} (h6 : t.1 200 6 = L) (h4 : t.1 200 4 = p) (hp : p + L ≤ 4096) (hk : k < 200) (hb : ∀ i, i < L → inR (t.1 0 (p + i))) (hf : ∀ i, i < L → inR (t.1 9 (24 * k + i))) (hL : L ≤ 24) (K : Int → St → Option (Int × St)) : ∀ (d i n : Nat), i + d = L → d + 1 < n →
    f_X12_nameAt_L31 K k n 1 i t = K (cmpw (nmW t k) (fun j => t.1 0 (p + j)) d i) t ∧ f_X12_nameAt_L31 K k n 0 i t = K 0 t := by
  have h0 : ∀ (i n : Nat), i ≤ L → f_X12_nameAt_L31 K k (n + 1) 0 i t = K 0 t := by
    intro i n hi
    unfold f_X12_nameAt_L31
    simp only [lt1_k, jn1_k]
    rw [h6, cmpI_ok (by omega)]
    by_cases h : (i : Int) < L
    · rw [if_pos h, cmpI_ok (by omega), if_pos trivial]
    · rw [if_neg h]
  intro d
  induction d with
  | zero =>
    intro i n h1 h2
    obtain ⟨n, rfl⟩ : ∃ k, n = k + 1 := ⟨n - 1, by omega⟩
    refine ⟨?_, h0 i n (by omega)⟩
    unfold f_X12_nameAt_L31
    simp only [lt1_k, jn1_k]
    rw [h6, cmpI_ok (by omega), if_neg (by omega)]; rfl
  | succ d ih =>
    intro i n h1 h2
    obtain ⟨n, rfl⟩ : ∃ k, n = k + 1 := ⟨n - 1, by omega⟩
    refine ⟨?_, h0 i n (by omega)⟩
    unfold f_X12_nameAt_L31
    simp only [lt1_k, jn1_k]
    have e1 : ((24 : Int) * k + i).toNat = 24 * k + i := by omega
    have e2 : ((p : Int) + i).toNat = p + i := by omega
    have i1 := (ih (i + 1) n (by omega) (by omega))
    rw [h6, cmpI_ok (by omega), if_pos (by omega), cmpI_ok (by omega), if_neg (by decide), ixI_ok (by omega), h4, ixI_ok (by omega), e1, e2, cmpI_ok ⟨hf i (by omega), hb i (by omega)⟩, show ((i : Int) + 1) = ((i + 1 : Nat) : Int) from by omega, i1.1, i1.2]
    conv => rhs; unfold cmpw
    show (if nmW t k i = t.1 0 (p + i) then _ else _) = _
    by_cases h : nmW t k i = t.1 0 (p + i)
    · rw [if_pos h, if_pos h]
    · rw [if_neg h, if_neg h]
/-- the model's names, as far as its own reading goes -/
def nmOK (m : St) : Prop := (0 ≤ m.1 200 13 ∧ m.1 200 13 ≤ 200) ∧ ∀ k : Nat, (k : Int) < m.1 200 13 → (1 ≤ m.1 10 k ∧ m.1 10 k ≤ 24) ∧ ∀ i, i < nmLen m k → 0 < nmW m k i ∧ nmW m k i < 128
theorem s_nameL {N : Nat} {t : St} {p L M : Nat} (h6 : t.1 200 6 = L) (h4 : t.1 200 4 = p) (hp : p + L ≤ 4096) (hL : L ≤ 24) (hb : ∀ i, i < L → inR (t.1 0 (p + i))) (hM : t.1 200 13 = M) (ho : nmOK t) (hN : 4200 ≤ N) : ∀ (d k n : Nat), k + d = M → d < n →
    f_X12_nameAt_L2 N (fun t24 => some (-1, t24)) n k t = some (fmw (nmb t (fun j => t.1 0 (p + j)) L) d k, t) := by
  have hM2 := ho.1
  intro d
  induction d with
  | zero =>
    intro k n h1 h2
    obtain ⟨n, rfl⟩ : ∃ j, n = j + 1 := ⟨n - 1, by omega⟩
    unfold f_X12_nameAt_L2
    simp only [lt1_k, jn1_k]
    rw [hM, cmpI_ok (by omega), if_neg (by omega)]; rfl
  | succ d ih =>
    intro k n h1 h2
    obtain ⟨n, rfl⟩ : ∃ j, n = j + 1 := ⟨n - 1, by omega⟩
    obtain ⟨hlen, hlet⟩ := ho.2 k (by omega)
    have hz : t.1 10 k = ((nmLen t k : Nat) : Int) := by unfold nmLen; omega
    unfold f_X12_nameAt_L2 fmw
    simp only [lt1_k, jn1_k]
    rw [hM, cmpI_ok (by omega), if_pos (by omega), ixI_ok (by omega), Int.toNat_natCast, h6, cmpI_ok (by omega), show ((k : Int) + 1) = ((k + 1 : Nat) : Int) from by omega]
    by_cases hl : nmLen t k = L
    · have hc := s_namc h6 h4 hp (k := k) (by omega) hb (fun i hi => by have := hlet i (by omega); unfold nmW at this; constructor <;> omega) hL (fun k22 t23 => cmpI k22 0 (if k22 = 0 then f_X12_nameAt_L2 N (fun t24 => some (-1, t24)) n ((k + 1 : Nat) : Int) t23 else some ((k : Int), t23))) L 0 N (by omega) (by omega)
      rw [show ((0 : Nat) : Int) = 0 from rfl] at hc
      rw [if_pos (by omega), hc.1]
      rcases cmpw_01 (a := nmW t k) (b := fun j => t.1 0 (p + j)) L 0 with h0 | h0
      · rw [h0, cmpI_ok (by omega), if_pos rfl, if_neg (fun q => by unfold nmb at q; rw [Bool.and_eq_true, beq_iff_eq] at q; omega)]
        exact ih (k + 1) n (by omega) (by omega)
      · rw [h0, cmpI_ok (by omega), if_neg (by decide), if_pos (by unfold nmb; rw [Bool.and_eq_true, beq_iff_eq, decide_eq_true_iff]; exact ⟨hl, h0⟩)]
    · have h00 : ∀ (K : Int → St → Option (Int × St)), f_X12_nameAt_L31 K k N 0 0 t = K 0 t := by
        intro K
        obtain ⟨N, rfl⟩ : ∃ j, N = j + 1 := ⟨N - 1, by omega⟩
        unfold f_X12_nameAt_L31
        simp only [lt1_k, jn1_k]
        rw [h6, cmpI_ok (by omega)]
        by_cases h : (0 : Int) < L
        · rw [if_pos h, cmpI_ok (by omega), if_pos trivial]
        · rw [if_neg h]
      rw [if_neg (by omega), h00, cmpI_ok (by omega), if_pos rfl, if_neg (fun q => by unfold nmb at q; rw [Bool.and_eq_true, decide_eq_true_iff] at q; exact hl q.1)]
      exact ih (k + 1) n (by omega) (by omega)
theorem s_nameAt {N : Nat} {t : St} {p L M : Nat} (h6 : t.1 200 6 = L) (h4 : t.1 200 4 = p) (hp : p + L ≤ 4096) (hL : L ≤ 24) (hb : ∀ i, i < L → inR (t.1 0 (p + i))) (hM : t.1 200 13 = M) (ho : nmOK t) (hN : 4200 ≤ N) : f_X12_nameAt N t = some (fmw (nmb t (fun j => t.1 0 (p + j)) L) M 0, t) := by
  unfold f_X12_nameAt
  have h := s_nameL (N := N) h6 h4 hp hL hb hM ho hN M 0 N (by omega) (by have := ho.1; omega)
  rw [show ((0 : Nat) : Int) = 0 from rfl] at h
  exact h
/-! the hall's find -/
def fdb (t : St) (o i n : Nat) : Bool := decide (t.2 (340 + o) (3 * n) = t.2 335 (3 * i)) && (decide (t.2 (340 + o) (3 * n + 1) = t.2 335 (3 * i + 1)) && decide (t.2 (340 + o) (3 * n + 2) = t.2 335 (3 * i + 2)))
theorem nmL_rng (o : Nat) : nmL o ≤ 300 := by
  unfold nmL; split <;> decide
theorem s_findL {o i M : Nat} {t : St} (hi : 3 * i + 2 < 12294) (hM : t.1 (312 + o) 2 = M) (hl : 3 * M ≤ nmL o) : ∀ (d k n : Nat), k + d = M → d < n →
    f_X6_find_L18 o 335 12294 (fun t14 => some (-1, t14)) i n k t = some (fmw (fdb t o i) d k, t) := by
  have hL := nmL_rng o
  intro d
  induction d with
  | zero =>
    intro k n h1 h2
    obtain ⟨n, rfl⟩ : ∃ j, n = j + 1 := ⟨n - 1, by omega⟩
    unfold f_X6_find_L18
    simp only [lt1_k, jn1_k]
    rw [hM, cmpI_ok (by omega), if_neg (by omega)]; rfl
  | succ d ih =>
    intro k n h1 h2
    obtain ⟨n, rfl⟩ : ∃ j, n = j + 1 := ⟨n - 1, by omega⟩
    have i1 := ih (k + 1) n (by omega) (by omega)
    unfold f_X6_find_L18 fmw
    simp only [lt1_k, jn1_k]
    rw [hM, cmpI_ok (by omega), if_pos (by omega), ixI_ok (by omega), ixI_ok (by omega), show ((k : Int) + 1) = ((k + 1 : Nat) : Int) from by omega, i1, show ((3 : Int) * k).toNat = 3 * k from by omega, show ((3 : Int) * i).toNat = 3 * i from by omega]
    unfold fdb
    by_cases h0 : t.2 (340 + o) (3 * k) = t.2 335 (3 * i)
    · rw [if_pos h0, decide_eq_true h0, Bool.true_and, ixI_ok (by omega), ixI_ok (by omega), show ((3 : Int) * k + 1).toNat = 3 * k + 1 from by omega, show ((3 : Int) * i + 1).toNat = 3 * i + 1 from by omega]
      by_cases h1 : t.2 (340 + o) (3 * k + 1) = t.2 335 (3 * i + 1)
      · rw [if_pos h1, decide_eq_true h1, Bool.true_and, ixI_ok (by omega), ixI_ok (by omega), show ((3 : Int) * k + 2).toNat = 3 * k + 2 from by omega, show ((3 : Int) * i + 2).toNat = 3 * i + 2 from by omega]
        by_cases h2 : t.2 (340 + o) (3 * k + 2) = t.2 335 (3 * i + 2)
        · rw [if_pos h2, decide_eq_true h2, if_pos rfl]
        · rw [if_neg h2, decide_eq_false h2, if_neg (by decide)]
      · rw [if_neg h1, decide_eq_false h1, Bool.false_and, if_neg (by decide)]
    · rw [if_neg h0, decide_eq_false h0, Bool.false_and, if_neg (by decide)]
theorem s_find {N o i M : Nat} {t : St} (hi : i < 4098) (hM : t.1 (312 + o) 2 = M) (hl : 3 * M ≤ nmL o) (hN : 400 ≤ N) : f_X6_find N o 335 12294 i t = some (fmw (fdb t o i) M 0, t) := by
  have hL := nmL_rng o
  unfold f_X6_find
  rw [cmpI_ok (by omega), if_neg (by omega), cmpI_ok (by omega), if_pos (by omega)]
  have h := s_findL (o := o) (i := i) (t := t) (by omega) hM hl M 0 N (by omega) (by omega)
  rw [show ((0 : Nat) : Int) = 0 from rfl] at h
  exact h
theorem fmw_some {P : Nat → Bool} : ∀ d w : Nat, fmw P d w ≠ -1 → ∃ k, w ≤ k ∧ k < w + d ∧ fmw P d w = k ∧ P k = true := by
  intro d
  induction d with
  | zero => intro w h; exact absurd rfl h
  | succ d ih =>
    intro w h
    unfold fmw at h ⊢
    by_cases hp : P w = true
    · rw [if_pos hp]; exact ⟨w, Nat.le_refl _, by omega, rfl, hp⟩
    · rw [if_neg hp] at h ⊢
      obtain ⟨k, h1, h2, h3, h4⟩ := ih (w + 1) h
      exact ⟨k, by omega, by omega, h3, h4⟩
theorem fmw_neg {P : Nat → Bool} : ∀ d w : Nat, fmw P d w = -1 → ∀ k, w ≤ k → k < w + d → P k = false := by
  intro d
  induction d with
  | zero => intro w _ k h1 h2; omega
  | succ d ih =>
    intro w h k h1 h2
    unfold fmw at h
    by_cases hp : P w = true
    · rw [if_pos hp] at h; omega
    · rw [if_neg hp] at h
      by_cases q : k = w
      · rw [q]; exact Bool.eq_false_iff.mpr hp
      · exact ih (w + 1) h k (by omega) (by omega)
/-- a word at a token: what the hall finds of one sort, and what the model finds -/
theorem find_both {t m : St} {B : Nat → Int} {e i s : Nat} (hn : NmR t m) (hs : s < 3) (hw : TK t B e i) (hq : ch B e i < e) (hl : isLt (B (ch B e i))) (h24 : wnd B e (e - ch B e i) (ch B e i) - ch B e i ≤ 24) :
    fmw (fdb t s i) (t.1 (312 + s) 2).toNat 0 = (let k := fmw (nmb m (fun j => B (ch B e i + j)) (wnd B e (e - ch B e i) (ch B e i) - ch B e i)) (m.1 200 13).toNat 0; if k = -1 then -1 else if m.1 11 k.toNat = s then m.1 12 k.toNat else -1) := by
  obtain ⟨n1, n2, n3, n4, n5⟩ := hn
  have hT := hw.2.2.2 hq hl h24
  generalize hQ : ch B e i = q at *
  generalize hW : wnd B e (e - q) q = w at *
  have hwc : ∀ j, j < w - q → 0 < B (q + j) ∧ B (q + j) < 256 := fun j hj => wc_rng (wnd_wc (B := B) (e := e) (e - q) q (q + j) (by omega) (by rw [hW]; omega))
  -- a name of the sort matches iff the model's name for it does
  have hm : ∀ k n : Nat, (k : Int) < m.1 200 13 → m.1 11 k = s → m.1 12 k = n → (fdb t s i n = true ↔ nmt m (fun j => B (q + j)) (w - q) k) := by
    intro k n hk h11 h12
    obtain ⟨hlen, hlet, s', n', hs', a1, a2, a3, a4⟩ := n3 k hk
    have es : s' = s := by omega
    have en : n' = n := by omega
    subst es; subst en
    have hlk : nmLen m k ≤ 24 := by unfold nmLen; omega
    have h24' := p24 (a := nmW m k) (b := fun j => B (q + j)) hlk h24 (fun i hi => by have := hlet i hi; omega) hwc
    have e3 : fdb t s' i n' = true ↔ ∀ j, j < 3 → Int64.ofNat (pk8 (fun i => nmW m k (8 * j + i)) (nmLen m k - 8 * j) 8) = Int64.ofNat (pk8 (fun i => B (q + (8 * j + i))) (w - q - 8 * j) 8) := by
      have b0 := a4 0 (by decide)
      have b1 := a4 1 (by decide)
      have b2 := a4 2 (by decide)
      have c0 := hT 0 (by decide)
      have c1 := hT 1 (by decide)
      have c2 := hT 2 (by decide)
      rw [lt3_p] at c0 c1 c2
      rw [Nat.add_zero] at b0 c0
      unfold fdb
      rw [Bool.and_eq_true, Bool.and_eq_true, decide_eq_true_iff, decide_eq_true_iff, decide_eq_true_iff, b0, b1, b2, c0, c1, c2]
      constructor
      · intro h9 j hj
        have hj3 : j = 0 ∨ j = 1 ∨ j = 2 := by omega
        rcases hj3 with rfl | rfl | rfl
        · exact h9.1
        · exact h9.2.1
        · exact h9.2.2
      · intro h9
        exact ⟨h9 0 (by decide), h9 1 (by decide), h9 2 (by decide)⟩
    rw [e3, h24']
    unfold nmt
    constructor
    · intro h9; exact ⟨h9.1, fun i hi => h9.2 i (by omega)⟩
    · intro h9; exact ⟨h9.1, fun i hi => h9.2 i (by omega)⟩
  dsimp only
  by_cases hF : fmw (fdb t s i) (t.1 (312 + s) 2).toNat 0 = -1
  · rw [hF]
    by_cases hK : fmw (nmb m (fun j => B (q + j)) (w - q)) (m.1 200 13).toNat 0 = -1
    · rw [if_pos hK]
    · rw [if_neg hK]
      obtain ⟨k, k1, k2, k3, k4⟩ := fmw_some _ _ hK
      rw [k3, Int.toNat_natCast]
      by_cases h11 : m.1 11 k = s
      · exfalso
        obtain ⟨_, _, s', n', hs', a1, a2, a3, a4⟩ := n3 k (by omega)
        have es : s' = s := by omega
        subst es
        have h9 := (hm k n' (by omega) h11 a2).mpr (nmb_nmt.mp k4)
        have := fmw_neg _ _ hF n' (by omega) (by omega)
        rw [h9] at this; cases this
      · rw [if_neg h11]
  · obtain ⟨n, j1, j2, j3, j4⟩ := fmw_some _ _ hF
    obtain ⟨k, k1, k2, k3⟩ := n4 s n hs (by omega)
    have hkm := (hm k n k1 k2 k3).mp j4
    have hK : ¬ fmw (nmb m (fun j => B (q + j)) (w - q)) (m.1 200 13).toNat 0 = -1 := by
      intro h9
      have := fmw_neg _ _ h9 k (by omega) (by omega)
      rw [nmb_nmt.mpr hkm] at this; cases this
    obtain ⟨k', l1, l2, l3, l4⟩ := fmw_some _ _ hK
    have hk' := nmb_nmt.mp l4
    have : k' = k := n5 k' k (by omega) k1 (by rw [hk'.1, hkm.1]) (fun i hi => by rw [hk'.2 i (by rw [hk'.1] at hi; exact hi), hkm.2 i (by rw [hk'.1] at hi; exact hi)])
    subst this
    rw [if_neg hK, l3, Int.toNat_natCast, if_pos k2, j3, k3]
