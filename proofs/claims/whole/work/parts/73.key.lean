/-! the model's key words -/
def kwS (w : Nat) : Nat := ([0, 5, 12, 17, 23, 26, 33, 39, 42, 49, 55, 60, 63, 68, 72, 76, 82, 89, 95, 101, 108, 115, 122, 125, 128, 131, 135, 139, 144, 150, 153, 159, 161, 163, 165, 167, 171, 176, 182] : List Nat).getD w 0
def kwN (w : Nat) : Nat := ([4, 6, 4, 5, 2, 6, 5, 2, 6, 5, 4, 2, 4, 3, 3, 5, 6, 5, 5, 6, 6, 6, 2, 2, 2, 3, 3, 4, 5, 2, 5, 1, 1, 1, 1, 3, 4, 5] : List Nat).getD w 0
theorem kw_rng (k : Nat) : inR (kwZ k) := ⟨by have := Int32.le_toInt (kwC k); unfold kwZ; omega, by have := Int32.toInt_lt (kwC k); unfold kwZ; omega⟩
set_option maxRecDepth 100000 in
theorem kw_tab : ∀ w, w < 38 → kwS (w + 1) = kwS w + kwN w + 1 ∧ kwS w + kwN w < 182 ∧ kwZ (kwS w + kwN w) = 32 ∧ kwN w ≤ 8 ∧ 0 < kwN w := by decide +kernel
set_option maxRecDepth 100000 in
theorem kw_let : ∀ w, w < 38 → ∀ j, j < 8 → j < kwN w → 97 ≤ kwZ (kwS w + j) ∧ kwZ (kwS w + j) ≤ 122 := by decide +kernel
def cmpw (a b : Nat → Int) : Nat → Nat → Int
  | 0, _ => 1
  | d + 1, i => if a i = b i then cmpw a b d (i + 1) else 0
theorem cmpw_1 {a b : Nat → Int} : ∀ d i : Nat, cmpw a b d i = 1 ↔ ∀ j, i ≤ j → j < i + d → a j = b j := by
  intro d
  induction d with
  | zero => intro i; exact ⟨fun _ j h1 h2 => by omega, fun _ => rfl⟩
  | succ d ih =>
    intro i
    unfold cmpw
    by_cases h : a i = b i
    · rw [if_pos h, ih]
      refine ⟨fun q j h1 h2 => ?_, fun q j h1 h2 => q j (by omega) (by omega)⟩
      by_cases e : j = i
      · rw [e]; exact h
      · exact q j (by omega) (by omega)
    · rw [if_neg h]
      exact ⟨fun q => (by cases q), fun q => absurd (q i (by omega) (by omega)) h⟩
theorem cmpw_01 {a b : Nat → Int} : ∀ d i : Nat, cmpw a b d i = 0 ∨ cmpw a b d i = 1 := by
  intro d
  induction d with
  | zero => intro i; exact Or.inr rfl
  | succ d ih =>
    intro i
    unfold cmpw
    split
    · exact ih _
    · exact Or.inl rfl
theorem s_keyc {t : St} {p L f : Nat} (h6 : t.1 200 6 = L) (h4 : t.1 200 4 = p) (hp : p + L ≤ 4096) (hb : ∀ i, i < L → inR (t.1 0 (p + i))) (hf : f + L ≤ 182) (K : Int → St → Option (Int × St)) : ∀ (d i n : Nat), i + d = L → d + 1 < n →
    f_X12_keyAt_L51 K f n 1 i t = K (cmpw (fun j => kwZ (f + j)) (fun j => t.1 0 (p + j)) d i) t ∧ f_X12_keyAt_L51 K f n 0 i t = K 0 t := by
  have h0 : ∀ (i n : Nat), i ≤ L → f_X12_keyAt_L51 K f (n + 1) 0 i t = K 0 t := by
    intro i n hi
    unfold f_X12_keyAt_L51
    simp only [lt1_k, jn1_k]
    rw [h6, cmpI_ok (by omega)]
    by_cases h : (i : Int) < L
    · rw [if_pos h, cmpI_ok (by omega), if_pos trivial]
    · rw [if_neg h]
  intro d
  induction d with
  | zero =>
    intro i n h1 h2
    obtain ⟨n, rfl⟩ : ∃ k, n = k + 1 := ⟨n - 1, by omega⟩
    refine ⟨?_, h0 i n (by omega)⟩
    unfold f_X12_keyAt_L51
    simp only [lt1_k, jn1_k]
    rw [h6, cmpI_ok (by omega), if_neg (by omega)]; rfl
  | succ d ih =>
    intro i n h1 h2
    obtain ⟨n, rfl⟩ : ∃ k, n = k + 1 := ⟨n - 1, by omega⟩
    refine ⟨?_, h0 i n (by omega)⟩
    unfold f_X12_keyAt_L51
    simp only [lt1_k, jn1_k]
    have e1 : ((f : Int) + i).toNat = f + i := by omega
    have e2 : ((p : Int) + i).toNat = p + i := by omega
    have i1 := (ih (i + 1) n (by omega) (by omega))
    rw [h6, cmpI_ok (by omega), if_pos (by omega), cmpI_ok (by omega), if_neg (by decide), ixI_ok (by omega), h4, ixI_ok (by omega), e1, e2, cmpI_ok ⟨kw_rng _, hb i (by omega)⟩, show ((i : Int) + 1) = ((i + 1 : Nat) : Int) from by omega, i1.1, i1.2]
    conv => rhs; unfold cmpw
    by_cases h : kwZ (f + i) = t.1 0 (p + i)
    · rw [if_pos h, if_pos h]
    · rw [if_neg h, if_neg h]
def kfn (b : Nat → Int) (L : Nat) : Nat → Int → Nat → Nat → Int
  | 0, _, _, _ => -1
  | d + 1, w, f, k => if kwZ k = 32 then (if k = f + L ∧ cmpw (fun j => kwZ (f + j)) b L 0 = 1 then w else kfn b L d (w + 1) (k + 1) (k + 1)) else kfn b L d w f (k + 1)
theorem s_kfn {N : Nat} {t : St} {p L : Nat} (h6 : t.1 200 6 = L) (h4 : t.1 200 4 = p) (hp : p + L ≤ 4096) (hb : ∀ i, i < L → inR (t.1 0 (p + i))) (hN : 4200 ≤ N) : ∀ (d f k n : Nat) (w : Int), k + d = 182 → f ≤ k → d < n →
    f_X12_keyAt_L6 N (fun t31 => some (-1, t31)) n w f k t = some (kfn (fun j => t.1 0 (p + j)) L d w f k, t) := by
  intro d
  induction d with
  | zero =>
    intro f k n w h1 h2 h3
    obtain ⟨n, rfl⟩ : ∃ j, n = j + 1 := ⟨n - 1, by omega⟩
    unfold f_X12_keyAt_L6
    simp only [lt1_k, jn1_k]
    rw [cmpI_ok (by omega), if_neg (by omega)]; rfl
  | succ d ih =>
    intro f k n w h1 h2 h3
    obtain ⟨n, rfl⟩ : ∃ j, n = j + 1 := ⟨n - 1, by omega⟩
    unfold f_X12_keyAt_L6 kfn
    simp only [lt1_k, jn1_k]
    have hk := kw_rng k
    rw [cmpI_ok (by omega), if_pos (by omega), ixI_ok (by omega), show ((k : Nat) : Int).toNat = k from by omega, cmpI_ok ⟨hk, by omega⟩, show ((k : Int) + 1) = ((k + 1 : Nat) : Int) from by omega]
    by_cases hs : kwZ k = 32
    · rw [if_pos hs, if_pos hs, h6, cmpI_ok (by omega)]
      by_cases hl : k = f + L
      · have hc := (s_keyc h6 h4 hp hb (f := f) (by omega) (fun k29 t30 => cmpI k29 0 (if k29 = 0 then f_X12_keyAt_L6 N (fun t31 => some (-1, t31)) n (w + 1) ((k + 1 : Nat) : Int) ((k + 1 : Nat) : Int) t30 else some (w, t30))) L 0 N (by omega) (by omega))
        rw [if_pos (by omega)]
        rw [show ((0 : Nat) : Int) = 0 from rfl] at hc
        rw [hc.1]
        rcases cmpw_01 (a := fun j => kwZ (f + j)) (b := fun j => t.1 0 (p + j)) L 0 with h0 | h0
        · rw [h0, cmpI_ok (by omega), if_pos rfl, if_neg (fun q => by have := q.2; omega)]
          exact ih (k + 1) (k + 1) n (w + 1) (by omega) (by omega) (by omega)
        · rw [h0, cmpI_ok (by omega), if_neg (by decide), if_pos ⟨hl, rfl⟩]
      · rw [if_neg (by omega)]
        have h00 : ∀ (K : Int → St → Option (Int × St)), f_X12_keyAt_L51 K f N 0 0 t = K 0 t := by
          intro K
          obtain ⟨N, rfl⟩ : ∃ j, N = j + 1 := ⟨N - 1, by omega⟩
          unfold f_X12_keyAt_L51
          simp only [lt1_k, jn1_k]
          rw [h6, cmpI_ok (by omega)]
          by_cases h : (0 : Int) < L
          · rw [if_pos h, cmpI_ok (by omega), if_pos trivial]
          · rw [if_neg h]
        rw [h00, cmpI_ok (by omega), if_pos rfl, if_neg (fun q => hl q.1)]
        exact ih (k + 1) (k + 1) n (w + 1) (by omega) (by omega) (by omega)
    · rw [if_neg hs, if_neg hs]
      exact ih f (k + 1) n w (by omega) (by omega) (by omega)
theorem kfn_s (b : Nat → Int) (L d : Nat) (w : Int) (f k : Nat) : kfn b L (d + 1) w f k = if kwZ k = 32 then (if k = f + L ∧ cmpw (fun j => kwZ (f + j)) b L 0 = 1 then w else kfn b L d (w + 1) (k + 1) (k + 1)) else kfn b L d w f (k + 1) := rfl
/-- the first key word that a word is, by its bytes -/
def kmt (b : Nat → Int) (L w : Nat) : Prop := L = kwN w ∧ ∀ i, i < L → kwZ (kwS w + i) = b i
theorem kfn_word {b : Nat → Int} {L w : Nat} (hw : w < 38) : ∀ (g d : Nat) (v : Int), g ≤ kwN w →
    (kmt b L w → kfn b L (d + g + 1) v (kwS w) (kwS w + (kwN w - g)) = v) ∧ (¬ kmt b L w → kfn b L (d + g + 1) v (kwS w) (kwS w + (kwN w - g)) = kfn b L d (v + 1) (kwS (w + 1)) (kwS (w + 1))) := by
  obtain ⟨t1, t2, t3, t4, t5⟩ := kw_tab w hw
  intro g
  induction g with
  | zero =>
    intro d v hg
    rw [Nat.sub_zero, Nat.add_zero, kfn_s, if_pos t3]
    have hc := cmpw_1 (a := fun j => kwZ (kwS w + j)) (b := b) L 0
    constructor
    · intro hm
      rw [if_pos ⟨by rw [hm.1], hc.mpr (fun j _ h2 => hm.2 j (by omega))⟩]
    · intro hm
      rw [if_neg (fun q => hm ⟨by omega, fun i hi => hc.mp q.2 i (by omega) (by omega)⟩), t1]
  | succ g ih =>
    intro d v hg
    have hl := kw_let w hw (kwN w - (g + 1)) (by omega) (by omega)
    rw [kfn_s, if_neg (by omega), show kwS w + (kwN w - (g + 1)) + 1 = kwS w + (kwN w - g) from by omega]
    exact ih d v (by omega)
/-- the number of the first of the words from one on that matches, -1 if there is none -/
def fmw (P : Nat → Bool) : Nat → Nat → Int
  | 0, _ => -1
  | d + 1, w => if P w = true then w else fmw P d (w + 1)
def kmb (b : Nat → Int) (L w : Nat) : Bool := decide (L = kwN w) && (cmpw (fun j => kwZ (kwS w + j)) b L 0 == 1)
theorem kmb_kmt {b : Nat → Int} {L w : Nat} : kmb b L w = true ↔ kmt b L w := by
  unfold kmb kmt
  rw [Bool.and_eq_true, decide_eq_true_iff, beq_iff_eq, cmpw_1]
  exact ⟨fun q => ⟨q.1, fun i hi => q.2 i (by omega) (by omega)⟩, fun q => ⟨q.1, fun j _ hj => q.2 j (by omega)⟩⟩
def kwR (w : Nat) : Nat := 182 - kwS w
theorem kfn_fm {b : Nat → Int} {L : Nat} : ∀ (d w : Nat), w + d = 38 → kfn b L (182 - kwS w) w (kwS w) (kwS w) = fmw (kmb b L) d w := by
  intro d
  induction d with
  | zero =>
    intro w hw
    have : w = 38 := by omega
    subst this
    rfl
  | succ d ih =>
    intro w hw
    obtain ⟨t1, t2, t3, t4, t5⟩ := kw_tab w (by omega)
    have h := kfn_word (b := b) (L := L) (w := w) (by omega) (kwN w) (182 - kwS (w + 1)) w (Nat.le_refl _)
    rw [show 182 - kwS (w + 1) + kwN w + 1 = 182 - kwS w from by omega, Nat.sub_self, Nat.add_zero] at h
    unfold fmw
    by_cases hm : kmt b L w
    · rw [h.1 hm, if_pos (kmb_kmt.mpr hm)]
    · rw [h.2 hm, if_neg (fun q => hm (kmb_kmt.mp q)), show ((w : Int) + 1) = ((w + 1 : Nat) : Int) from by omega]
      exact ih (w + 1) (by omega)
theorem s_keyAt {N : Nat} {t : St} {p L : Nat} (h6 : t.1 200 6 = L) (h4 : t.1 200 4 = p) (hp : p + L ≤ 4096) (hb : ∀ i, i < L → inR (t.1 0 (p + i))) (hN : 4200 ≤ N) : f_X12_keyAt N t = some (fmw (kmb (fun j => t.1 0 (p + j)) L) 38 0, t) := by
  unfold f_X12_keyAt
  have h := s_kfn (N := N) h6 h4 hp hb hN 182 0 0 N 0 (by omega) (by omega) (by omega)
  have h2 := kfn_fm (b := fun j => t.1 0 (p + j)) (L := L) 38 0 (by omega)
  rw [show ((0 : Nat) : Int) = 0 from rfl] at h
  rw [h]
  exact congrArg (fun x => some (x, t)) h2
