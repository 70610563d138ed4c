/-! the run: where a block ends -/
section
variable {N o n : Nat} {t0 m0 t m u v w : St} {k h a : Nat} {K4 K5 : St → Option (Int × St)} {K2 : Int → St → Option (Int × St)} {K3 : St → Option (Int × St)}
/-- the model leaves a block that is not danced again -/
theorem m_c0 {c q : Nat} (h51 : m.1 200 51 = ((k + 1 : Nat) : Int)) (hk : k < 1600) (hq : m.1 56 k = (q : Int)) (hq2 : q < 6000) (hw : m.1 31 q = 5123 ∨ m.1 31 q = 11 ∨ m.1 31 q = 13) : f_X12_closes N c m = some (0, pI m 200 51 (k : Int)) := by
  unfold f_X12_closes
  simp only [lt1_k, jn1_k]
  rw [h51, ixI_ok (by omega), show (((k + 1 : Nat) : Int) - 1).toNat = k by omega, hq, ixI_ok (by omega), Int.toNat_natCast, cmpI_ok (by omega), if_neg (by omega), cmpI_ok (by omega), if_neg (by omega), cmpI_ok (by omega), if_neg (by omega), cmpI_ok (by omega), if_neg (by omega), show ((k + 1 : Nat) : Int) - 1 = (k : Int) by omega]
/-- the model at the end of a block that is counted -/
theorem m_c1 {c q : Nat} {r : Nat} (h51 : m.1 200 51 = ((k + 1 : Nat) : Int)) (hk : k < 1600) (hq : m.1 56 k = (q : Int)) (hq2 : q < 6000) (hw : m.1 31 q = 8 ∨ m.1 31 q = 9) (hz : m.1 57 k = ((r + 1 : Nat) : Int)) (hr : r < 64) :
    f_X12_closes N c m = if r = 0 then some (0, pI (pI m 57 k (r : Int)) 200 51 (k : Int)) else (bdI (f_X12_actsOf N q (pI m 57 k (r : Int))) fun v15 t14 => bdI (f_X12_acted N v15 t14) fun v17 t16 => cmpI v17 0 (if 0 < v17 then (some (v17, t16)) else (ixI (k : Int) 1600 (if m.1 31 q = 9 then (ixI (k : Int) 1600 (ixI (k : Int) 1600 (bdI (f_X12_readCondition N ((pI t16 200 114 (t16.1 56 k + 1)).2 58 k) (pI t16 200 114 (t16.1 56 k + 1))) fun v27 t26 => cmpI v27 0 (if v27 = 0 then (ixI (k : Int) 1600 (some (0, pI t26 55 k (t26.1 200 114 + 2 + 1)))) else (some (0, pI t26 200 51 (t26.1 200 51 - 1))))))) else (ixI (k : Int) 1600 (some (0, pI t16 55 k (t16.1 56 k + 2 + 1))))))))  := by
  have main : ∀ y : St, y = pI m 57 k (r : Int) → (ixI (((k + 1 : Nat) : Int) - 1) 1600 (cmpI (y.1 57 (((k + 1 : Nat) : Int) - 1).toNat) 0 (if y.1 57 (((k + 1 : Nat) : Int) - 1).toNat = 0 then (some ((0 : Int), pI y 200 51 (y.1 200 51 - 1))) else (ixI (((k + 1 : Nat) : Int) - 1) 1600 (bdI (f_X12_actsOf N (y.1 56 (((k + 1 : Nat) : Int) - 1).toNat) y) fun v15 t14 => bdI (f_X12_acted N v15 t14) fun v17 t16 => cmpI v17 0 (if 0 < v17 then (some (v17, t16)) else (ixI (((k + 1 : Nat) : Int) - 1) 1600 (cmpI (m.1 31 q) 9 (if m.1 31 q = 9 then (ixI (((k + 1 : Nat) : Int) - 1) 1600 (ixI (((k + 1 : Nat) : Int) - 1) 1600 (bdI (f_X12_readCondition N ((pI t16 200 114 (t16.1 56 (((k + 1 : Nat) : Int) - 1).toNat + 1)).2 58 (((k + 1 : Nat) : Int) - 1).toNat) (pI t16 200 114 (t16.1 56 (((k + 1 : Nat) : Int) - 1).toNat + 1))) fun v27 t26 => cmpI v27 0 (if v27 = 0 then (ixI (((k + 1 : Nat) : Int) - 1) 1600 (some (0, pI t26 55 (((k + 1 : Nat) : Int) - 1).toNat (t26.1 200 114 + 2 + 1)))) else (some (0, pI t26 200 51 (t26.1 200 51 - 1))))))) else (ixI (((k + 1 : Nat) : Int) - 1) 1600 (some (0, pI t16 55 (((k + 1 : Nat) : Int) - 1).toNat (t16.1 56 (((k + 1 : Nat) : Int) - 1).toNat + 2 + 1))))))))))))) = if r = 0 then some (0, pI (pI m 57 k (r : Int)) 200 51 (k : Int)) else (bdI (f_X12_actsOf N q (pI m 57 k (r : Int))) fun v15 t14 => bdI (f_X12_acted N v15 t14) fun v17 t16 => cmpI v17 0 (if 0 < v17 then (some (v17, t16)) else (ixI (k : Int) 1600 (if m.1 31 q = 9 then (ixI (k : Int) 1600 (ixI (k : Int) 1600 (bdI (f_X12_readCondition N ((pI t16 200 114 (t16.1 56 k + 1)).2 58 k) (pI t16 200 114 (t16.1 56 k + 1))) fun v27 t26 => cmpI v27 0 (if v27 = 0 then (ixI (k : Int) 1600 (some (0, pI t26 55 k (t26.1 200 114 + 2 + 1)))) else (some (0, pI t26 200 51 (t26.1 200 51 - 1))))))) else (ixI (k : Int) 1600 (some (0, pI t16 55 k (t16.1 56 k + 2 + 1)))))))) := fun y hy => by
    have e57 : y.1 57 k = (r : Int) := by rw [hy, pI_at]
    have e56 : y.1 56 k = (q : Int) := by rw [hy, pI_ne (by decide)]; exact hq
    have e51 : y.1 200 51 = ((k + 1 : Nat) : Int) := by rw [hy, pI_ne (by decide)]; exact h51
    rw [show (((k + 1 : Nat) : Int) - 1).toNat = k by omega, show ((k + 1 : Nat) : Int) - 1 = (k : Int) by omega, ixI_ok (by omega), e57, e56, e51, cmpI_ok (by omega), ixI_ok (by omega), show ((k + 1 : Nat) : Int) - 1 = (k : Int) by omega]
    have hcm : ∀ Z : Option (Int × St), cmpI (m.1 31 q) 9 Z = Z := fun Z => cmpI_ok (by omega)
    simp only [hcm]
    by_cases r0 : r = 0
    · rw [if_pos (by omega), if_pos r0, hy]
    · rw [if_neg (by omega), if_neg r0, hy]
  unfold f_X12_closes
  simp only [lt1_k, jn1_k]
  rw [h51, ixI_ok (by omega), show (m.1 56 (((k + 1 : Nat) : Int) - 1).toNat) = (q : Int) by rw [show (((k + 1 : Nat) : Int) - 1).toNat = k by omega]; exact hq, ixI_ok (by omega), Int.toNat_natCast, ixI_ok (by omega), ixI_ok (by omega), show m.1 57 (((k + 1 : Nat) : Int) - 1).toNat = ((r + 1 : Nat) : Int) by rw [show (((k + 1 : Nat) : Int) - 1).toNat = k by omega]; exact hz, show ((r + 1 : Nat) : Int) - 1 = (r : Int) by omega]
  have hy : pI m 57 (((k + 1 : Nat) : Int) - 1).toNat (r : Int) = pI m 57 k (r : Int) := by rw [show (((k + 1 : Nat) : Int) - 1).toNat = k by omega]
  rcases hw with w8 | w9
  · rw [cmpI_ok (by omega), if_pos w8, cmpI_ok (by omega), if_pos w8]
    exact main _ hy
  · rw [cmpI_ok (by omega), if_neg (by omega), cmpI_ok (by omega), if_pos w9, cmpI_ok (by omega), if_neg (by omega), cmpI_ok (by omega), if_pos w9]
    exact main _ hy
theorem GMr.p51 {x : Int} : GMr m (pI m 200 51 x) := GMr.F (by omega)
theorem RNc.m51 {x : Int} (h0 : RNc o t m) : RNc o t (pI m 200 51 x) := by
  unfold RNc at h0 ⊢
  rw [pI_nf (by decide), pI_nf (by decide), pI_nf (by decide)]
  exact h0
theorem RNc.m57 {a i : Nat} {x : Int} (ha : a ≠ 200) (h0 : RNc o t m) : RNc o t (pI m a i x) := by
  unfold RNc at h0 ⊢
  rw [pI_ne (Ne.symm ha)]
  exact h0
/-- down to the frame under the top -/
theorem RF.dn {X : CTE} {L : Int} {S : Nat → Int64} {h' a' : Nat} (g : RF X m0 L n S (m.1 55) (m.1 56) (m.1 57) (m.2 58) k h' a') (e1 : ∀ j, j < h' → u.2 (410 + o) j = S j) (e5 : ∀ j, j ≤ k → v.1 55 j = m.1 55 j) (e6 : ∀ j, j ≤ k → v.1 56 j = m.1 56 j) (e7 : ∀ j, j ≤ k → v.1 57 j = m.1 57 j) (e8 : v.2 58 = m.2 58) : RF X m0 L n (u.2 (410 + o)) (v.1 55) (v.1 56) (v.1 57) (v.2 58) k h' a' :=
  g.cg e1 e5 e6 e7 (fun j _ => by rw [e8])
/-- the end of a part, an if, a for -/
theorem nx_ep {b d q : Nat} {h' a' j : Nat} (hN : 20000 ≤ N) (hR : RUNR o n t0 m0 t m (k + 1) h a) (hk : k + 1 < 1500) (h55 : m.1 55 (k + 1) = (d : Int)) (hd : d < 6000) (htd : m0.1 31 d = 5125) (hq : m.1 56 (k + 1) = (q : Int)) (hq2 : q < 6000) (hw : m0.1 31 q = 5123 ∨ m0.1 31 q = 11 ∨ m0.1 31 q = 13)
    (hj : j ≤ 6) (hG : ∀ (q : Nat) (x : Int), 0 ≤ x → x < 900000 → f_X8_goOn_L7 N o o K4 K5 (q + j) x t = f_X8_goOn_L7 N o o K4 K5 q (x + j) u) (g1 : HSr o t u (a' : Int) (h' : Int)) (uS : ∀ j, j < h' → u.2 (410 + o) j = t.2 (410 + o) j) (uw : u.2 (307 + o) 4 = m.2 58 k) (hRF : RF (XC t0 m0) m0 (t0.1 302 18) n (t.2 (410 + o)) (m.1 55) (m.1 56) (m.1 57) (m.2 58) k h' a') : NXs N o n t0 m0 K4 K5 K2 K3 t m (k + 1) := by
  right
  have ho := hR.ho
  have htk := hR.1.2.tk
  obtain ⟨q3, q6, q51, qw⟩ := hR.2.2.2.1
  have hcl := m_c0 (N := N) (m := m) (k := k + 1) (c := d) (q := q) q51 (by omega) hq hq2 (by rw [htk.1]; exact hw)
  have p51 : ∀ y, y ≠ 51 → (pI m 200 51 ((k + 1 : Nat) : Int)).1 200 y = m.1 200 y := fun y hy => pI_nf hy
  have po : ∀ x, x ≠ 200 → (pI m 200 51 ((k + 1 : Nat) : Int)).1 x = m.1 x := fun x hx => pI_ne hx
  refine ⟨j, u, pI m 200 51 ((k + 1 : Nat) : Int), k, h', a', hj, hG, fun r => ?_, ?_, ?_⟩
  · rw [m_cls (k := k + 1) (c := d) (r := r) q51 (by omega) h55 (by omega) (by rw [htk.1]; exact htd) hcl (Or.inl rfl), if_pos rfl]
  · exact hR.to (g1.gh ho) (g1.ci ho hR.2.1.2.2.2.2.2.1) GMr.p51 (g1.rc hR.2.2.1).m51 ⟨g1.1, g1.2.1, pI_at, uw⟩ (hRF.cg uS (fun j _ => by rw [po 55 (by decide)]) (fun j _ => by rw [po 56 (by decide)]) (fun j _ => by rw [po 57 (by decide)]) (fun j _ => rfl))
  · rw [p51 52 (by decide)]; omega
/-- the end of a part: back to the one that called it -/
theorem nx_eA {b d q h' a' : Nat} (hN : 20000 ≤ N) (hl : t0.1 302 18 ≤ 10098) (hR : RUNR o n t0 m0 t m (k + 1) h b) (hk : k + 1 < 1500) (h55 : m.1 55 (k + 1) = (d : Int)) (hd : d < 6000) (htd : m0.1 31 d = 5125) (hb : (b : Int) < t0.1 302 18) (hq : m.1 56 (k + 1) = (q : Int)) (hq2 : q < 6000) (hw : m0.1 31 q = 5123) (hcd : t0.1 363 b = 29) (hh : h = h' + 1) (hh2 : h' ≤ k) (hS : t.2 (410 + o) h' = Int64.ofInt (a' : Int)) (ha' : a' < 20000) (hW : m.2 58 (k + 1) = m.2 58 k) (hRF : RF (XC t0 m0) m0 (t0.1 302 18) n (t.2 (410 + o)) (m.1 55) (m.1 56) (m.1 57) (m.2 58) k h' a') : NXs N o n t0 m0 K4 K5 K2 K3 t m (k + 1) := by
  have ho := hR.ho
  have hth := hR.th
  obtain ⟨q3, q6, q51, qw⟩ := hR.2.2.2.1
  subst hh
  have hob := ob_29 (N := N) (o := o) (t := t) (a1 := 0) (h := h') q6 (by omega)
  rw [hS, Int64.toInt_ofInt_of_le (by omega) (by omega)] at hob
  refine nx_ep (j := 1) (u := pI (pI t (307 + o) 6 (h' : Int)) (307 + o) 3 (a' : Int)) (b := b) hN hR hk h55 hd htd hq hq2 (Or.inl hw) (by omega) (fun q x z1 z2 => ?_) ((HSr.rf.p6).p3) (fun j _ => rfl) (by rw [← hW]; exact qw) hRF
  rw [g_word0 (m := m) (kd := 29) (vl := 0) hR.2.2.1 q3 (by rw [hth.2.1]; omega) (by rw [hth.2.1]; omega) (by rw [hth.1, hcd]; rfl) (by omega) (by decide) (by omega) (by omega) (Or.inr (by rw [q6]; omega)) (ac_0 (by omega)), hob, bdV_s]
  rfl
theorem nx_eD {b d q a' : Nat} (hN : 20000 ≤ N) (hl : t0.1 302 18 ≤ 10098) (hR : RUNR o n t0 m0 t m (k + 1) h b) (hk : k + 1 < 1500) (h55 : m.1 55 (k + 1) = (d : Int)) (hd : d < 6000) (htd : m0.1 31 d = 5125) (hb : (b : Int) < t0.1 302 18) (hq : m.1 56 (k + 1) = (q : Int)) (hq2 : q < 6000) (hw : m0.1 31 q = 11) (hcd : t0.1 363 b = (a' : Int) * 64 + 26 ∨ a' = b) (ha' : a' < 20000) (hW : m.2 58 (k + 1) = m.2 58 k) (hRF : RF (XC t0 m0) m0 (t0.1 302 18) n (t.2 (410 + o)) (m.1 55) (m.1 56) (m.1 57) (m.2 58) k h a') : NXs N o n t0 m0 K4 K5 K2 K3 t m (k + 1) := by
  have ho := hR.ho
  have hth := hR.th
  obtain ⟨q3, q6, q51, qw⟩ := hR.2.2.2.1
  rcases hcd with hcd | hcd
  · have g : HSr o t (pI t (307 + o) 3 (a' : Int)) (a' : Int) (h : Int) := by rw [← q6]; exact HSr.rf.p3
    refine nx_ep (j := 1) (u := pI t (307 + o) 3 (a' : Int)) (b := b) hN hR hk h55 hd htd hq hq2 (Or.inr (Or.inl hw)) (by omega) (fun q x z1 z2 => ?_) g (fun j _ => rfl) (by rw [← hW]; exact qw) hRF
    rw [g_word0 (m := m) (kd := 26) (vl := (a' : Int)) hR.2.2.1 q3 (by rw [hth.2.1]; omega) (by rw [hth.2.1]; omega) (by rw [hth.1, hcd]) (by omega) (by decide) (by omega) (by omega) (Or.inl (by decide)) (ac_0 (by omega)), ob_26, bdV_s]
    rfl
  · have g : HSr o t t (a' : Int) (h : Int) := by rw [← q6, hcd, ← q3]; exact HSr.rf
    exact nx_ep (j := 0) (u := t) (b := b) hN hR hk h55 hd htd hq hq2 (Or.inr (Or.inl hw)) (by omega) (fun q x z1 z2 => by rw [show x + ((0 : Nat) : Int) = x by omega]; rfl) g (fun j _ => rfl) (by rw [← hW]; exact qw) hRF
theorem nx_eE {b d q h' : Nat} (hN : 20000 ≤ N) (hl : t0.1 302 18 ≤ 10098) (hR : RUNR o n t0 m0 t m (k + 1) h b) (hk : k + 1 < 1500) (h55 : m.1 55 (k + 1) = (d : Int)) (hd : d < 6000) (htd : m0.1 31 d = 5125) (hb : (b : Int) < t0.1 302 18) (hq : m.1 56 (k + 1) = (q : Int)) (hq2 : q < 6000) (hw : m0.1 31 q = 13) (hcd : t0.1 363 b = 28) (hh : h = h' + 1) (hh2 : h' ≤ k) (hS : t.2 (410 + o) h' = m.2 58 k) (hRF : RF (XC t0 m0) m0 (t0.1 302 18) n (t.2 (410 + o)) (m.1 55) (m.1 56) (m.1 57) (m.2 58) k h' (b + 1)) : NXs N o n t0 m0 K4 K5 K2 K3 t m (k + 1) := by
  have ho := hR.ho
  have hth := hR.th
  obtain ⟨q3, q6, q51, qw⟩ := hR.2.2.2.1
  subst hh
  have hob := ob_28 (N := N) (o := o) (t := t) (a1 := 0) (h := h') q3 q6 (by omega)
  refine nx_ep (j := 1) (u := pI (pL (pI t (307 + o) 6 (h' : Int)) (307 + o) 4 (t.2 (410 + o) h')) (307 + o) 3 ((b + 1 : Nat) : Int)) (b := b) hN hR hk h55 hd htd hq hq2 (Or.inr (Or.inr hw)) (by omega) (fun q x z1 z2 => ?_) (((HSr.rf.p6).l (Or.inr rfl)).p3) (fun j _ => by rw [pI_L, pL_ne (by omega)]; rfl) (by rw [pI_L, pL_at]; exact hS) hRF
  rw [g_word0 (m := m) (kd := 28) (vl := 0) hR.2.2.1 q3 (by rw [hth.2.1]; omega) (by rw [hth.2.1]; omega) (by rw [hth.1, hcd]; rfl) (by omega) (by decide) (by omega) (by omega) (Or.inl (by decide)) (ac_0 (by omega)), hob, bdV_s]
  rfl
end
