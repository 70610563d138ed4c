/-! the hall's numbers, signs and tokens -/
theorem c_nvf {N : Nat} {t : St} {B : Nat → Int} {e y : Nat} (h : cTx t B e) (hy : y ≤ e) (K : Int → Int → St → Option (Int × St)) : ∀ (d p n : Nat) (v : Int), e ≤ p + d → p ≤ e → y ≤ p → d < n →
    f_X10_readNumber_L34 N K y n p v t = K ((nvf B e d p ((p : Int) - y) v).2.2 : Int) (nvf B e d p ((p : Int) - y) v).2.1 t := by
  have he := h.2.1
  have hend : ∀ (n p : Nat) (v : Int), p = e → f_X10_readNumber_L34 N K y (n + 1) p v t = K (p : Int) v t := by
    intro n p v hp
    subst hp
    unfold f_X10_readNumber_L34
    simp only [lt1_k, jn1_k]
    rw [h.1, cmpI_ok (by omega), if_neg (by omega)]
  intro d
  induction d with
  | zero =>
    intro p n v h1 h2 h3 h4
    obtain ⟨n, rfl⟩ : ∃ k, n = k + 1 := ⟨n - 1, by omega⟩
    rw [hend n p v (by omega)]; rfl
  | succ d ih =>
    intro p n v h1 h2 h3 h4
    obtain ⟨n, rfl⟩ : ∃ k, n = k + 1 := ⟨n - 1, by omega⟩
    by_cases hp : p < e
    · have hr := h.2.2.2 p hp
      have i1 := fun v => ih (p + 1) n v (by omega) (by omega) (by omega) (by omega)
      have hp1 : ((p : Int) + 1) = ((p + 1 : Nat) : Int) := by omega
      have hg1 : ((p + 1 : Nat) : Int) - (y : Int) = (p : Int) - y + 1 := by omega
      unfold f_X10_readNumber_L34 nvf
      simp only [lt1_k, jn1_k]
      rw [h.1, cmpI_ok (by omega), if_pos (by omega), c_byteAt h hp, bdI_s, c_isDigit (by omega), bdI_s, cmpI_ok (by split <;> omega)]
      by_cases hd : isDg (B p)
      · rw [if_pos hd, if_neg (by decide), cmpI_ok (by omega), if_pos (show p < e ∧ isDg (B p) from ⟨hp, hd⟩), c_byteAt h hp, bdI_s, hp1, i1, i1, hg1]
        by_cases h5 : (p : Int) - y < 5
        · rw [if_pos h5, if_pos (by omega)]
        · rw [if_neg h5, if_neg (by omega)]
      · rw [if_neg hd, if_pos rfl, if_neg (fun q => hd q.2)]
    · rw [hend n p v (by omega)]
      unfold nvf
      rw [if_neg (fun q => hp q.1)]
def sgi (c : Int) : Int := if c = 123 then 0 else if c = 125 then 1 else if c = 40 then 2 else if c = 41 then 3 else if c = 44 then 4 else if c = 59 then 5 else if c = 61 then 6 else if c = 38 then 7 else -1
theorem sg_step {K : St → Option (Int × St)} {y : Int} {n i : Nat} {t : St} (hi : i < 8) (hy : inR y) (hs : inR (sqSZ i)) : f_J1_indexOfChar_4cfef_L7 K 8 y (n + 1) i t = if sqSZ i = y then some ((i : Int), t) else f_J1_indexOfChar_4cfef_L7 K 8 y n ((i + 1 : Nat) : Int) t := by
  conv => lhs; unfold f_J1_indexOfChar_4cfef_L7
  simp only [lt1_k]
  rw [cmpI_ok (by omega), if_pos (by omega), ixI_ok (by omega), Int.toNat_natCast, cmpI_ok ⟨hs, hy⟩, show ((i : Int) + 1) = ((i + 1 : Nat) : Int) from by omega]
theorem s_indexOf {N : Nat} {c : Int} {t : St} (hc : 0 ≤ c ∧ c < 256) (hN : 100 ≤ N) : f_J0_indexOf_0f7a4 N c t = some (sgi c, t) := by
  have hlat : f_J0_isLatin1_aae02 N t = some (1, t) := rfl
  have hlen : f_J0_length_8abf5 N t = some (8, t) := by
    have h1 : f_J0_coder_7d493 N t = some (0, t) := rfl
    unfold f_J0_length_8abf5
    rw [h1, bdI_s, show ishrZ 8 0 = 8 from by decide]
  have hce : f_J1_canEncode_9a6ad N c t = some (1, t) := by
    unfold f_J1_canEncode_9a6ad
    rw [cmpI_ok (by omega), if_neg (by omega), cmpI_ok (by omega), if_neg (by omega), boI_1]
  have hix : f_J1_indexOfChar_4cfef N c 0 8 t = some (sgi c, t) := by
    unfold f_J1_indexOfChar_4cfef
    obtain ⟨n, rfl⟩ : ∃ k, N = k + 9 := ⟨N - 9, by omega⟩
    have hb : b8 c = if c < 128 then c else c - 256 := by unfold b8; split <;> omega
    have hy : inR (b8 c) := by rw [hb]; split <;> (constructor <;> omega)
    have h0 := sg_step (K := fun t7 => some (-1, t7)) (y := b8 c) (n := n + 8) (i := 0) (t := t) (by decide) hy (by decide)
    have h1 := sg_step (K := fun t7 => some (-1, t7)) (y := b8 c) (n := n + 7) (i := 1) (t := t) (by decide) hy (by decide)
    have h2 := sg_step (K := fun t7 => some (-1, t7)) (y := b8 c) (n := n + 6) (i := 2) (t := t) (by decide) hy (by decide)
    have h3 := sg_step (K := fun t7 => some (-1, t7)) (y := b8 c) (n := n + 5) (i := 3) (t := t) (by decide) hy (by decide)
    have h4 := sg_step (K := fun t7 => some (-1, t7)) (y := b8 c) (n := n + 4) (i := 4) (t := t) (by decide) hy (by decide)
    have h5 := sg_step (K := fun t7 => some (-1, t7)) (y := b8 c) (n := n + 3) (i := 5) (t := t) (by decide) hy (by decide)
    have h6 := sg_step (K := fun t7 => some (-1, t7)) (y := b8 c) (n := n + 2) (i := 6) (t := t) (by decide) hy (by decide)
    have h7 := sg_step (K := fun t7 => some (-1, t7)) (y := b8 c) (n := n + 1) (i := 7) (t := t) (by decide) hy (by decide)
    have h8 : f_J1_indexOfChar_4cfef_L7 (fun t7 => some (-1, t7)) 8 (b8 c) (n + 1) ((8 : Nat) : Int) t = some (-1, t) := by
      unfold f_J1_indexOfChar_4cfef_L7
      rw [cmpI_ok (by omega), if_neg (by omega)]
    show f_J1_indexOfChar_4cfef_L7 (fun t7 => some (-1, t7)) 8 (b8 c) (n + 8 + 1) ((0 : Nat) : Int) t = _
    rw [h0, h1, h2, h3, h4, h5, h6, h7, h8, show sqSZ 0 = 123 from by decide, show sqSZ 1 = 125 from by decide, show sqSZ 2 = 40 from by decide, show sqSZ 3 = 41 from by decide, show sqSZ 4 = 44 from by decide, show sqSZ 5 = 59 from by decide, show sqSZ 6 = 61 from by decide, show sqSZ 7 = 38 from by decide]
    unfold sgi
    by_cases q : c < 128
    · rw [hb, if_pos q]
      by_cases q0 : c = 123
      · subst q0; rfl
      · rw [if_neg (by omega), if_neg q0]
        by_cases q1 : c = 125
        · subst q1; rfl
        · rw [if_neg (by omega), if_neg q1]
          by_cases q2 : c = 40
          · subst q2; rfl
          · rw [if_neg (by omega), if_neg q2]
            by_cases q3 : c = 41
            · subst q3; rfl
            · rw [if_neg (by omega), if_neg q3]
              by_cases q4 : c = 44
              · subst q4; rfl
              · rw [if_neg (by omega), if_neg q4]
                by_cases q5 : c = 59
                · subst q5; rfl
                · rw [if_neg (by omega), if_neg q5]
                  by_cases q6 : c = 61
                  · subst q6; rfl
                  · rw [if_neg (by omega), if_neg q6]
                    by_cases q7 : c = 38
                    · subst q7; rfl
                    · rw [if_neg (by omega), if_neg q7]
    · rw [hb, if_neg q, if_neg (by omega), if_neg (by omega), if_neg (by omega), if_neg (by omega), if_neg (by omega), if_neg (by omega), if_neg (by omega), if_neg (by omega), if_neg (by omega), if_neg (by omega), if_neg (by omega), if_neg (by omega), if_neg (by omega), if_neg (by omega), if_neg (by omega), if_neg (by omega)]
  have hi1 : f_J1_indexOf_4cfef N c 0 8 t = some (sgi c, t) := by
    unfold f_J1_indexOf_4cfef
    rw [hce, bdI_s, cmpI_ok (by omega), if_neg (by decide), cmpI_ok (by omega), cmpI_ok (by omega), cmpI_ok (by omega), if_pos (by omega), show max (0 : Int) 0 = 0 from rfl, show min (8 : Int) 8 = 8 from rfl, hix, bdI_s]
  unfold f_J0_indexOf_0f7a4 f_J0_indexOf_7cf53
  rw [hlat, bdI_s, cmpI_ok (by omega), if_neg (by decide), hlen, bdI_s, hi1, bdI_s, bdI_s]
/-- a token put behind the others -/
def putS (t : St) (c : Nat) (k v s : Int) : St := pI (pI (pI (pI t 332 c k) 333 c v) 334 c s) 301 7 ((c : Int) + 1)
theorem s_put {N : Nat} {t : St} {c : Nat} {k v s : Int} (hc : t.1 301 7 = c) (hl : c < 4098) : f_X10_put N k v s t = some (putS t c k v s) := by
  unfold f_X10_put putS
  simp only [lt1_k]
  rw [hc, cmpI_ok (by omega), if_pos (by omega), ixI_ok (by omega), Int.toNat_natCast]
  have e1 : (pI t 332 c k).1 301 7 = c := by rw [pI_ne (by decide)]; exact hc
  rw [e1, ixI_ok (by omega), Int.toNat_natCast]
  have e2 : (pI (pI t 332 c k) 333 c v).1 301 7 = c := by rw [pI_ne (by decide)]; exact e1
  rw [e2, ixI_ok (by omega), Int.toNat_natCast]
  have e3 : (pI (pI (pI t 332 c k) 333 c v) 334 c s).1 301 7 = c := by rw [pI_ne (by decide)]; exact e2
  rw [e3]
theorem s_readNumber {N : Nat} {t : St} {B : Nat → Int} {e q c : Nat} (h : cTx t B e) (hq : q < e) (hn : isDg (B q) ∨ B q = 45) (hc : t.1 301 7 = c) (hl : c < 4098) (hN : 5000 ≤ N) :
    f_X10_readNumber N q t = some (if 1 ≤ (tNum B e q).1 ∧ (tNum B e q).1 ≤ 5 then ((tNum B e q).2.2 : Int) else -1, putS t c (if 1 ≤ (tNum B e q).1 ∧ (tNum B e q).1 ≤ 5 then 39 else 49) (if B q = 45 then -(tNum B e q).2.1 else (tNum B e q).2.1) q) := by
  have he := h.2.1
  have hr := h.2.2.2 q hq
  unfold f_X10_readNumber
  simp only [lt1_k, jn1_k]
  rw [c_byteAt h hq, bdI_s, cmpI_ok (by omega)]
  by_cases h45 : B q = 45
  · have hz : nvf B e (e - (q + 1)) (q + 1) (((q + 1 : Nat) : Int) - ((q + 1 : Nat) : Int)) 0 = tNum B e q := by
      unfold tNum; rw [if_pos h45, if_pos h45, Int.sub_self]
    have hg := nvf_le (B := B) (e := e) (e - (q + 1)) (q + 1) 0 0 (by omega) (by omega)
    rw [show nvf B e (e - (q + 1)) (q + 1) 0 0 = tNum B e q from by unfold tNum; rw [if_pos h45, if_pos h45]] at hg
    rw [if_pos h45, cmpI_ok (by omega), if_neg (by decide), show ((q : Int) + 1) = ((q + 1 : Nat) : Int) from by omega, c_nvf h (y := q + 1) (by omega) _ (e - (q + 1)) (q + 1) N 0 (by omega) (by omega) (by omega) (by omega), hz, if_pos h45]
    simp only [if_neg (show ¬ (1 : Int) = 0 by decide)]
    have k1 : ∀ X : Option (Int × St), cmpI 1 0 X = X := fun X => cmpI_ok (by omega)
    have k0 : ∀ X : Option (Int × St), cmpI 0 0 X = X := fun X => cmpI_ok (by omega)
    simp only [k1, k0]
    rw [cmpI_ok (by omega)]
    by_cases hgd : 1 ≤ (tNum B e q).1 ∧ (tNum B e q).1 ≤ 5
    · rw [if_pos (by omega), cmpI_ok (by omega), if_neg (by omega), s_put hc hl, bdV_s, if_pos hgd, if_pos hgd]
    · rw [if_neg hgd, if_neg hgd]
      by_cases h1 : ((q + 1 : Nat) : Int) < ((tNum B e q).2.2 : Int)
      · rw [if_pos h1, cmpI_ok (by omega), if_pos (by omega), s_put hc hl, bdV_s]; rfl
      · rw [if_neg h1, s_put hc hl, bdV_s]; rfl
  · have hd : isDg (B q) := hn.resolve_right h45
    have hz : nvf B e (e - q) q ((q : Int) - (q : Int)) 0 = tNum B e q := by
      unfold tNum
      rw [Int.sub_self, if_neg h45, if_neg h45, show e - q = (e - (q + 1)) + 1 from by omega]
      conv => lhs; unfold nvf
      rw [if_pos (show q < e ∧ isDg (B q) from ⟨hq, hd⟩), if_pos (by omega), show (10 * 0 + B q - 48 : Int) = B q - 48 from by omega]; rfl
    have hg := nvf_le (B := B) (e := e) (e - q) q 0 0 (by omega) (by omega)
    rw [show nvf B e (e - q) q 0 0 = tNum B e q from by rw [← hz, Int.sub_self]] at hg
    rw [if_neg h45, cmpI_ok (by omega), if_pos trivial, c_nvf h (y := q) (by omega) _ (e - q) q N 0 (by omega) (by omega) (by omega) (by omega), hz, if_neg h45]
    have k1 : ∀ X : Option (Int × St), cmpI 1 0 X = X := fun X => cmpI_ok (by omega)
    have k0 : ∀ X : Option (Int × St), cmpI 0 0 X = X := fun X => cmpI_ok (by omega)
    simp only [k1, k0]
    rw [cmpI_ok (by omega)]
    by_cases hgd : 1 ≤ (tNum B e q).1 ∧ (tNum B e q).1 ≤ 5
    · rw [if_pos (by omega), cmpI_ok (by omega), if_neg (by omega), if_pos hgd, if_pos hgd]
      simp only [s_put hc hl, bdV_s]; rfl
    · rw [if_neg hgd, if_neg hgd]
      by_cases h1 : (q : Int) < ((tNum B e q).2.2 : Int)
      · rw [if_pos h1, cmpI_ok (by omega), if_pos (by omega)]
        simp only [s_put hc hl, bdV_s]; rfl
      · rw [if_neg h1]
        simp only [s_put hc hl, bdV_s]; rfl
