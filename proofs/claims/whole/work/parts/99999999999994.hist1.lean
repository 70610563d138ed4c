/-! the history: the model's stack as the world sees it; frames packed into longs -/
section
variable {X : CTE} {m0 : St} {L : Int} {n : Nat} {S S2 : Nat → Int64} {P Q Z P2 Q2 Z2 : Nat → Int} {W W2 : Nat → Int64}
theorem RTl.cz : ∀ (k : Nat) {h : Nat} {M : St} {b d s q : Nat}, RTl X m0 L n S P Q Z W k h M b d s q → (∀ j, j < h → S2 j = S j) → (∀ j, j < k → P2 j = P j) → (∀ j, j < k → Q2 j = Q j) → (∀ j r : Nat, j ≤ k → r < 64 → Z j = ((r + 1 : Nat) : Int) → Z2 j = ((r + 1 : Nat) : Int)) → (∀ j, j ≤ k → W2 j = W j) → RTl X m0 L n S2 P2 Q2 Z2 W2 k h M b d s q := by
  intro k
  induction k with
  | zero => intro h M b d s q g _ _ _ _ _; exact g
  | succ k ih =>
    intro h M b d s q g e1 e2 e3 e4 e5
    have rf : ∀ {h' a' : Nat}, h' ≤ h → RF X m0 L n S P Q Z W k h' a' → RF X m0 L n S2 P2 Q2 Z2 W2 k h' a' := fun {h' a'} hh ⟨M', f', b', c', d', s', q', k1, k2, k3, k4⟩ => ⟨M', f', b', c', d', s', q', by rw [e2 k (by omega), e5 k (by omega)]; exact k1, by rw [e3 k (by omega)]; exact k2, k3, ih k4 (fun j hj => e1 j (by omega)) (fun j hj => e2 j (by omega)) (fun j hj => e3 j (by omega)) (fun j x hj => e4 j x (by omega)) (fun j hj => e5 j (by omega))⟩
    rw [RTl_s] at g ⊢
    rw [e5 (k + 1) (by omega), e5 k (by omega)]
    rcases g with ⟨h1, h2, h', a', h3, h4, h5, h6, h7⟩ | ⟨h1, r, h', a', a0, f2, h2, h3, h4, h5, h6, h7, h8, h9, h10, h11⟩ | ⟨h1, r, h', a', a0, f2, b1, d1, h2, h3, h4, h5, h6, h7, h8, h9, h10, h11, h12⟩ | ⟨h1, a', h2, h3, h4, h5⟩ | ⟨h1, h', h2, h3, h4, h5⟩
    · exact Or.inl ⟨h1, h2, h', a', h3, by rw [e1 h' (by omega)]; exact h4, h5, h6, rf (by omega) h7⟩
    · exact Or.inr (Or.inl ⟨h1, r, h', a', a0, f2, e4 (k + 1) r (by omega) h3 h2, h3, h4, by rw [e1 h' (by omega)]; exact h5, h6, h7, h8, h9, h10, rf (by omega) h11⟩)
    · exact Or.inr (Or.inr (Or.inl ⟨h1, r, h', a', a0, f2, b1, d1, e4 (k + 1) r (by omega) h3 h2, h3, h4, by rw [e1 h' (by omega)]; exact h5, h6, h7, h8, h9, h10, h11, rf (by omega) h12⟩))
    · exact Or.inr (Or.inr (Or.inr (Or.inl ⟨h1, a', h2, h3, h4, rf (by omega) h5⟩)))
    · exact Or.inr (Or.inr (Or.inr (Or.inr ⟨h1, h', h2, h3, by rw [e1 h' (by omega)]; exact h4, rf (by omega) h5⟩)))
theorem RF.cz {k h a : Nat} (g : RF X m0 L n S P Q Z W k h a) (e1 : ∀ j, j < h → S2 j = S j) (e2 : ∀ j, j ≤ k → P2 j = P j) (e3 : ∀ j, j ≤ k → Q2 j = Q j) (e4 : ∀ j r : Nat, j ≤ k → r < 64 → Z j = ((r + 1 : Nat) : Int) → Z2 j = ((r + 1 : Nat) : Int)) (e5 : ∀ j, j ≤ k → W2 j = W j) : RF X m0 L n S2 P2 Q2 Z2 W2 k h a := by
  obtain ⟨M', f', b', c', d', s', q', k1, k2, k3, k4⟩ := g
  exact ⟨M', f', b', c', d', s', q', by rw [e2 k (Nat.le_refl k), e5 k (Nat.le_refl k)]; exact k1, by rw [e3 k (Nat.le_refl k)]; exact k2, k3, k4.cz k e1 (fun j hj => e2 j (by omega)) (fun j hj => e3 j (by omega)) e4 e5⟩
theorem RFt.c6 {pk : Int} {wk : Int64} {M : St} {f k a b c d s : Nat} (h : RFt X m0 L n pk wk M f k a b c d s) : 0 ≤ pk ∧ pk < 6000 := by
  obtain ⟨h1, h2, _, _, ⟨h5, _⟩, _⟩ := h
  have := (SB.le _ _ _ _ _ h2).2
  omega
/-- every frame's place and statement is a token of the book -/
theorem RTl.pq : ∀ (k : Nat) {h : Nat} {M : St} {b d s q : Nat}, RTl X m0 L n S P Q Z W k h M b d s q → ∀ j, j < k → (0 ≤ P j ∧ P j < 6000) ∧ (0 ≤ Q j ∧ Q j < 6000) := by
  intro k
  induction k with
  | zero => intro h M b d s q _ j hj; omega
  | succ k ih =>
    intro h M b d s q g j hj
    have rf : ∀ {h' a' : Nat}, RF X m0 L n S P Q Z W k h' a' → (0 ≤ P j ∧ P j < 6000) ∧ (0 ≤ Q j ∧ Q j < 6000) := fun {h' a'} ⟨M', f', b', c', d', s', q', k1, k2, k3, k4⟩ => by
      by_cases hjk : j = k
      · rw [hjk]
        exact ⟨k1.c6, by omega, by omega⟩
      · exact ih k4 j (by omega)
    rw [RTl_s] at g
    rcases g with ⟨h1, h2, h', a', h3, h4, h5, h6, h7⟩ | ⟨h1, r, h', a', a0, f2, h2, h3, h4, h5, h6, h7, h8, h9, h10, h11⟩ | ⟨h1, r, h', a', a0, f2, b1, d1, h2, h3, h4, h5, h6, h7, h8, h9, h10, h11, h12⟩ | ⟨h1, a', h2, h3, h4, h5⟩ | ⟨h1, h', h2, h3, h4, h5⟩
    · exact rf h7
    · exact rf h11
    · exact rf h12
    · exact rf h5
    · exact rf h5
theorem RF.pq {k h a : Nat} (g : RF X m0 L n S P Q Z W k h a) : ∀ j, j ≤ k → (0 ≤ P j ∧ P j < 6000) ∧ (0 ≤ Q j ∧ Q j < 6000) := by
  obtain ⟨M', f', b', c', d', s', q', k1, k2, k3, k4⟩ := g
  intro j hj
  by_cases hjk : j = k
  · rw [hjk]
    exact ⟨k1.c6, by omega, by omega⟩
  · exact k4.pq k j (by omega)
theorem RF.hk {k h a : Nat} (g : RF X m0 L n S P Q Z W k h a) : h ≤ k := by
  obtain ⟨M', f', b', c', d', s', q', k1, k2, k3, k4⟩ := g
  exact k4.hk
end
/-- a frame in one long -/
def pk3 (a b z : Int) : Int64 := ((Int64.ofInt a) ||| (shlL (Int64.ofInt b) 16)) ||| (shlL (Int64.ofInt z) 32)
theorem uq_ofZ {z : Int} : (uq (Int64.ofInt z) : Int) = z % 18446744073709551616 := by
  show ((BitVec.ofInt 64 z).toNat : Int) = _
  rw [BitVec.toNat_ofInt, show ((2 ^ 64 : Nat) : Int) = 18446744073709551616 from rfl]
  omega
theorem pk3_e {a b z : Int} (ha : 0 ≤ a ∧ a < 65536) (hb : 0 ≤ b ∧ b < 65536) (hz : inR z) : pk3 a b z = Int64.ofInt (z * 4294967296 + b * 65536 + a) := by
  apply uq_inj
  unfold pk3
  have e1 : uq (Int64.ofInt a) = a.toNat := by
    have := uq_ofZ (z := a)
    omega
  have e2 : uq (shlL (Int64.ofInt b) 16) = b.toNat * 65536 := by
    have h := uq_shl (x := Int64.ofInt b) (v := 16) (by decide)
    have := uq_ofZ (z := b)
    rw [show ((16 : Nat) : Int) = 16 from rfl, show (2 : Nat) ^ 16 = 65536 from rfl] at h
    omega
  have e3 : uq (shlL (Int64.ofInt z) 32) = (z % 4294967296).toNat * 4294967296 := by
    have h := uq_shl (x := Int64.ofInt z) (v := 32) (by decide)
    have := uq_ofZ (z := z)
    rw [show ((32 : Nat) : Int) = 32 from rfl, show (2 : Nat) ^ 32 = 4294967296 from rfl] at h
    omega
  have e4 : uq (Int64.ofInt (z * 4294967296 + b * 65536 + a)) = (z % 4294967296).toNat * 4294967296 + (b.toNat * 65536 + a.toNat) := by
    have := uq_ofZ (z := z * 4294967296 + b * 65536 + a)
    omega
  rw [uq_or, uq_or, e1, e2, e3, e4]
  have h1 := Nat.shiftLeft_add_eq_or_of_lt (show a.toNat < 2 ^ 16 by omega) b.toNat
  have h2 := Nat.shiftLeft_add_eq_or_of_lt (show b.toNat * 65536 + a.toNat < 2 ^ 32 by omega) (z % 4294967296).toNat
  rw [Nat.shiftLeft_eq, show (2 : Nat) ^ 16 = 65536 from rfl] at h1
  rw [Nat.shiftLeft_eq, show (2 : Nat) ^ 32 = 4294967296 from rfl] at h2
  rw [h2, h1, Nat.or_comm a.toNat, Nat.or_comm (_ ||| a.toNat)]
theorem sar_i {x : Int64} {v : Nat} (h : v < 64) : (shrL x (v : Int)).toInt = x.toInt / ((2 ^ v : Nat) : Int) := by
  unfold shrL
  have e := sh_af ⟨v, h⟩
  show (x >>> ((Int32.ofInt ((v : Nat) : Int)).toInt64 &&& 63)).toBitVec.toInt = _
  rw [Int64.toBitVec_shiftRight]
  show (x.toBitVec.sshiftRight' (((Int32.ofInt ((v : Nat) : Int)).toInt64 &&& 63).toBitVec.smod 64)).toInt = _
  rw [e]
  show (x.toBitVec.sshiftRight (BitVec.ofNat 64 v).toNat).toInt = _
  rw [BitVec.toInt_sshiftRight, BitVec.toNat_ofNat, Nat.mod_eq_of_lt (show v < 2 ^ 64 by omega), Int.shiftRight_eq_div_pow]
  rfl
theorem toI_ofZ {z : Int} (h : -9223372036854775808 ≤ z ∧ z < 9223372036854775808) : (Int64.ofInt z).toInt = z := by
  have h1 : (Int64.ofInt z).toInt = if 2 * uq (Int64.ofInt z) < 2 ^ 64 then (uq (Int64.ofInt z) : Int) else (uq (Int64.ofInt z) : Int) - ((2 ^ 64 : Nat) : Int) := BitVec.toInt_eq_toNat_cond (Int64.ofInt z).toBitVec
  have h2 := uq_ofZ (z := z)
  rw [h1]
  split <;> omega
theorem and16 {x : Int64} : (x &&& (65535 : Int64)).toInt = x.toInt % 65536 := by
  have h : uq (x &&& (65535 : Int64)) = uq x % 65536 := by
    rw [uq_and, show uq (65535 : Int64) = 2 ^ 16 - 1 from rfl, Nat.and_two_pow_sub_one_eq_mod]
  rw [uq_toI (by omega), h]
  have h1 : x.toInt = if 2 * uq x < 2 ^ 64 then (uq x : Int) else (uq x : Int) - ((2 ^ 64 : Nat) : Int) := BitVec.toInt_eq_toNat_cond x.toBitVec
  rw [h1]
  split <;> omega
/-- a frame out of one long -/
abbrev un1 (v : Int64) : Int := (v &&& (65535 : Int64)).toInt
abbrev un2 (v : Int64) : Int := ((shrL v 16) &&& (65535 : Int64)).toInt
abbrev un3 (v : Int64) : Int := (shrL v 32).toInt
theorem un_pk {a b z : Int} (ha : 0 ≤ a ∧ a < 65536) (hb : 0 ≤ b ∧ b < 65536) (hz : inR z) : un1 (pk3 a b z) = a ∧ un2 (pk3 a b z) = b ∧ un3 (pk3 a b z) = z := by
  have e := toI_ofZ (z := z * 4294967296 + b * 65536 + a) ⟨by omega, by omega⟩
  rw [← pk3_e ha hb hz] at e
  have s16 := sar_i (x := pk3 a b z) (v := 16) (by decide)
  have s32 := sar_i (x := pk3 a b z) (v := 32) (by decide)
  rw [e, show ((16 : Nat) : Int) = 16 from rfl, show ((2 ^ 16 : Nat) : Int) = 65536 from rfl] at s16
  rw [e, show ((32 : Nat) : Int) = 32 from rfl, show ((2 ^ 32 : Nat) : Int) = 4294967296 from rfl] at s32
  refine ⟨?_, ?_, ?_⟩
  · show (pk3 a b z &&& (65535 : Int64)).toInt = a
    rw [and16, e]
    omega
  · show ((shrL (pk3 a b z) 16) &&& (65535 : Int64)).toInt = b
    rw [and16, s16]
    omega
  · show (shrL (pk3 a b z) 32).toInt = z
    rw [s32]
    omega
section
variable {n c : Nat} {t m : St}
/-- the history alone has changed, and what the model's stack does not need -/
theorem GR0.hm {u v : St} (h : GR0 n c t m) (g : ∀ x, x ≠ 309 → u.1 x = t.1 x) (gL : u.2 = t.2) (e : ∀ x, x ≠ 57 → x ≠ 200 → (x < 61 ∨ 64 < x) → v.1 x = m.1 x) (e57 : ∀ j r : Nat, r < 64 → m.1 57 j = ((r + 1 : Nat) : Int) → v.1 57 j = ((r + 1 : Nat) : Int)) (e2 : ∀ b, b ≠ 51 → b ≠ 59 → b ≠ 60 → v.1 200 b = m.1 200 b) (e51 : ∀ k : Nat, k < 1600 → m.1 200 51 = ((k + 1 : Nat) : Int) → v.1 200 51 = ((k + 1 : Nat) : Int)) (eL : ∀ x, x ≠ 65 → x ≠ 66 → v.2 x = m.2 x) : GR0 n c u v ∧ BGr (XC t m) m (t.1 302 18) (XC u v) v (u.1 302 18) := by
  obtain ⟨hb, hF, hr, hn, ht, hs⟩ := h
  have gg : ∀ x, (x < 309 ∨ 309 < x) → u.1 x = t.1 x := fun x hx => g x (by omega)
  have ee : ∀ x, (x < 57 ∨ (57 < x ∧ x < 61) ∨ (64 < x ∧ x ≠ 200)) → v.1 x = m.1 x := fun x hx => e x (by omega) (by omega) (by omega)
  have e9 : ∀ b, (b < 51 ∨ (51 < b ∧ b < 59) ∨ 60 < b) → v.1 200 b = m.1 200 b := fun b hb => e2 b (by omega) (by omega) (by omega)
  have hB : BK0 u v := hb.1.mv (fun x y hx _ => by rw [gg x (by omega)]) (fun x y hx _ => by rw [ee x (by omega)]) (fun s x hs _ => by rw [gL]) ⟨by rw [gg 312 (by omega)], by rw [gg 313 (by omega)], by rw [gg 314 (by omega)]⟩ ⟨by rw [gg 302 (by omega)], by rw [gg 302 (by omega)], by rw [gg 302 (by omega)]⟩ ⟨e9 13 (by omega), e9 14 (by omega), e9 15 (by omega), e9 16 (by omega), e9 17 (by omega), e9 33 (by omega)⟩
  have hG : BGr (XC t m) m (t.1 302 18) (XC u v) v (u.1 302 18) := BGr.same (gg 363 (by omega)) (by rw [gg 302 (by omega)]) (ee 31 (by omega)) (ee 32 (by omega)) (ee 18 (by omega)) (ee 29 (by omega)) (fun b hb => e9 b (by omega))
  refine ⟨⟨hb.mv hB (by rw [gL]) ⟨by rw [gg 301 (by omega)], gg 330 (by omega)⟩ (by rw [gg 300 (by omega)]) (e9 1 (by omega)) (ee 0 (by omega)) (e9 8 (by omega)), hF.mv hB (hF.1.2.2.2.2.2.2.1.ch (fun x hx => gg x (by omega)) (by rw [gL])) (fun x hx => gg x (by omega)) (by rw [gL]) (fun d _ => by rw [ee 38 (by omega), ee 39 (by omega), ee 40 (by omega), ee 41 (by omega), ee 44 (by omega), ee 45 (by omega), ee 46 (by omega)]; exact ⟨rfl, rfl, rfl, rfl, rfl, rfl, rfl⟩) ⟨ee 47 (by omega), ee 48 (by omega), ee 49 (by omega)⟩ (e9 37 (by omega)), ?_, hn.mv (fun b _ _ _ => by rw [gg 300 (by omega)]) (fun b hb => e9 b (by omega)), ht.mv (fun x hx => gg x (by omega)) (by rw [gg 310 (by omega)]) (e9 89 (by omega)), hs.mv (gg 433 (by omega)) (gg 432 (by omega)) (fun i _ => by rw [gg 362 (by omega)]) (fun b _ => by rw [gg 310 (by omega)]) (gg 435 (by omega)) (by rw [gL]) (gg 438 (by omega)) (fun a ha => ee a (by omega)) (eL 95 (by omega) (by omega)) (fun b hb => e9 b (by omega)) (by rw [e9 17 (by omega)]; exact Int.le_refl _) (by rw [eL 200 (by omega) (by omega)])⟩, hG⟩
  obtain ⟨h1, h2, h3, h4, h5⟩ := hr
  refine ⟨?_, by rw [gg 307 (by omega), e9 54 (by omega)]; exact h2, by rw [gg 307 (by omega)]; exact h3, by rw [e9 53 (by omega)]; exact h4, by rw [gg 307 (by omega)]; exact h5⟩
  rw [gg 307 (by omega), e9 50 (by omega)]
  rcases h1 with h1 | ⟨r1, r2, r3, k, hh, a, ⟨p1, p2, p3, p4⟩, p5⟩
  · exact Or.inl h1
  · have hk := p5.kk
    refine Or.inr ⟨r1, r2, by rw [e9 52 (by omega)]; exact r3, k, hh, a, ⟨?_, ?_, ?_, ?_⟩, ?_⟩
    · show u.1 307 3 = a
      rw [gg 307 (by omega)]; exact p1
    · show u.1 307 6 = hh
      rw [gg 307 (by omega)]; exact p2
    · exact e51 k (by omega) p3
    · rw [gL, eL 58 (by omega) (by omega)]; exact p4
    · refine (p5.lw hG).cz (fun j _ => by rw [gL]) (fun j hj => by rw [ee 55 (by omega)]) (fun j hj => by rw [ee 56 (by omega)]) (fun j x hj hx hz => e57 j x hx hz) (fun j hj => by rw [eL 58 (by omega) (by omega)])
/-- the model's stack as the world sees it -/
def nrm (m : St) : St := (fun a d => if a = 57 ∨ (a = 200 ∧ d = 51) then (Int32.ofInt (m.1 a d)).toInt else m.1 a d, m.2)
theorem nrm_o {a : Nat} (h : a ≠ 57) (h2 : a ≠ 200) : (nrm m).1 a = m.1 a := by
  funext d
  show (if a = 57 ∨ (a = 200 ∧ d = 51) then _ else m.1 a d) = m.1 a d
  rw [if_neg (by omega)]
theorem nrm_b {b : Nat} (h : b ≠ 51) : (nrm m).1 200 b = m.1 200 b := if_neg (by omega)
theorem nrm_57 {j : Nat} : (nrm m).1 57 j = (Int32.ofInt (m.1 57 j)).toInt := by
  show (if 57 = 57 ∨ (57 = 200 ∧ j = 51) then (Int32.ofInt (m.1 57 j)).toInt else m.1 57 j) = _
  rw [if_pos (Or.inl rfl)]
theorem nrm_51 : (nrm m).1 200 51 = (Int32.ofInt (m.1 200 51)).toInt := by
  show (if 200 = 57 ∨ (200 = 200 ∧ 51 = 51) then (Int32.ofInt (m.1 200 51)).toInt else m.1 200 51) = _
  rw [if_pos (Or.inr ⟨rfl, rfl⟩)]
theorem inR_z {a : Int} : inR (Int32.ofInt a).toInt := by
  have h1 := Int32.le_toInt (Int32.ofInt a)
  have h2 := Int32.toInt_lt (Int32.ofInt a)
  omega
theorem nrm_v {a d : Nat} : Int32.ofInt ((nrm m).1 a d) = Int32.ofInt (m.1 a d) := by
  show Int32.ofInt (if a = 57 ∨ (a = 200 ∧ d = 51) then (Int32.ofInt (m.1 a d)).toInt else m.1 a d) = _
  split
  · exact Int32.ofInt_toInt _
  · rfl
theorem gR0_nrm (h : GR0 n c t m) : GR0 n c t (nrm m) ∧ HKf t m t (nrm m) := by
  obtain ⟨k1, k2⟩ := h.hm (u := t) (v := nrm m) (fun _ _ => rfl) rfl (fun x h1 h2 _ => nrm_o h1 h2) (fun j r hr hj => by rw [nrm_57, hj, z_to (by omega)]) (fun b hb _ _ => nrm_b hb) (fun k hk hj => by rw [nrm_51, hj, z_to (by omega)]) (fun _ _ _ => rfl)
  exact ⟨k1, rfl, ⟨nrm_b (by decide), nrm_b (by decide)⟩, fun a h1 h2 => nrm_o (by omega) (by omega), ⟨rfl, rfl⟩, k2⟩
theorem gW_nrm {E : cE} {r : Nat → Nat} : gW E r shM (nrm m) = gW E r shM m := by
  unfold gW
  apply List.map_congr_left
  intro q hq
  have h9 : (q.2.2.2.all (fun f => Nat.beq f.1 0 || Nat.beq f.1 1 || Nat.beq f.1 2)) = true := by
    have : (shM.all (fun q => q.2.2.2.all (fun f => Nat.beq f.1 0 || Nat.beq f.1 1 || Nat.beq f.1 2))) = true := by decide +kernel
    exact List.all_eq_true.mp this q hq
  unfold gc gce
  congr 1
  have e1 : (fun i => Int32.ofInt ((nrm m).1 q.1 i)) = fun i => Int32.ofInt (m.1 q.1 i) := funext (fun i => nrm_v)
  have e2 : gfs r (nrm m) q.1 q.2.2.2 = gfs r m q.1 q.2.2.2 := by
    unfold gfs
    apply List.map_congr_left
    intro f hf
    have hm : f.1 ∈ q.2.2.2 := List.fst_mem_of_mem_zipIdx hf
    have h8 := List.all_eq_true.mp h9 f.1 hm
    unfold gv
    cases c0 : Nat.beq f.1.1 0
    · cases c1 : Nat.beq f.1.1 1
      · cases c2 : Nat.beq f.1.1 2
        · rw [c0, c1, c2] at h8
          cases h8
        · rfl
      · rfl
    · show Value.int (Int32.ofInt ((nrm m).1 q.1 f.2)) = Value.int (Int32.ofInt (m.1 q.1 f.2))
      rw [nrm_v]
  rw [e1, e2]
  rfl
end
