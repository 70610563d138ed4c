/-! reading in lock step: a part -/
/-- both fail alike and leave Fr, or both go on -/
def SIMf (B : Nat → Int) (e mm : Nat) (Fr Q : St → St → Prop) (F G : Option (Int × St)) : Prop := (∃ u v : St, F = some (0, u) ∧ G = some (0, v) ∧ FR u v B e mm ∧ Fr u v) ∨ ∃ u v : St, F = some (1, u) ∧ G = some (1, v) ∧ Q u v
section
variable {N : Nat} {B : Nat → Int} {e mm i a c : Nat} {kp k2 : Int} {t m t2 m2 : St}
theorem SIM.f {Fr Q : St → St → Prop} {F G : Option (Int × St)} (h : SIM B e mm t m a c Q F G) (g : ∀ u v, FRh t u a → FRm m v c → Fr u v) : SIMf B e mm Fr Q F G := by
  rcases h with ⟨u, v, h1, h2, h3, h4, h5⟩ | h
  · exact Or.inl ⟨u, v, h1, h2, h3, g u v h4 h5⟩
  · exact Or.inr h
theorem SIMf.bind {Fr Q R : St → St → Prop} {F G : Option (Int × St)} {KF KG : St → Option (Int × St)} (h : SIMf B e mm Fr Q F G) (g : ∀ u v, Q u v → SIMf B e mm Fr R (KF u) (KG v)) :
    SIMf B e mm Fr R (bdI F fun x y => cmpI x 0 (if x = 0 then boI 0 (some (0, y)) else KF y)) (bdI G fun x y => cmpI x 0 (if x = 0 then boI 0 (some (0, y)) else KG y)) := by
  rcases h with ⟨u, v, h1, h2, h3⟩ | ⟨u, v, h1, h2, h3⟩
  · left
    refine ⟨u, v, ?_, ?_, h3⟩
    · rw [h1, bdI_s, cmpI_ok (by omega), if_pos rfl, boI_0]
    · rw [h2, bdI_s, cmpI_ok (by omega), if_pos rfl, boI_0]
  · rw [h1, h2, bdI_s, bdI_s, cmpI_ok (by omega), cmpI_ok (by omega), if_neg (by decide), if_neg (by decide)]
    exact g u v h3
theorem TKs.mv (h : TKs t B e mm) (e1 : t2.1 301 7 = t.1 301 7) (e2 : ∀ x, x = 332 ∨ x = 333 ∨ x = 334 → t2.1 x = t.1 x) (e3 : t2.2 335 = t.2 335) : TKs t2 B e mm := by
  obtain ⟨k1, k2, k3, k4, k5, k6⟩ := h
  refine ⟨fun i hi => ?_, k2, k3, by rw [e1]; exact k4, by rw [e1]; exact k5, k6⟩
  have h := k1 i hi
  exact ⟨by rw [e2 334 (by omega)]; exact h.1, by rw [e2 332 (by omega)]; exact h.2.1, by rw [e2 333 (by omega)]; exact h.2.2.1, by rw [e3]; exact h.2.2.2⟩
theorem PR.mv (h : PR t m B e mm kp i) (hT : TKs t2 B e mm) (e3 : ∀ b, b ≠ 7 → t2.1 303 b = t.1 303 b) (e2 : t2.1 302 19 = t.1 302 19) (em : ∀ b, b ≠ 13 → b ≠ 14 → b ≠ 15 → b ≠ 16 → b ≠ 17 → b ≠ 36 → m2.1 200 b = m.1 200 b) (m0 : m2.1 0 = m.1 0) (h36 : m2.1 200 36 = k2) (h7 : t2.1 303 7 = if k2 = 1 then 1 else 0) : PR t2 m2 B e mm k2 i := by
  obtain ⟨p1, p2, p3, p4, p5, p6, p7, p8, p9, p10⟩ := h
  exact ⟨hT, p2, p3.of (fun b h1 h2 => em b (by omega) (by omega) (by omega) (by omega) (by omega) (by omega)) m0, by rw [e3 2 (by decide)]; exact p4, by rw [e3 3 (by decide)]; exact p5, by rw [e3 4 (by decide)]; exact p6, by rw [e3 6 (by decide), em 35 (by decide) (by decide) (by decide) (by decide) (by decide) (by decide), e3 5 (by decide), em 8 (by decide) (by decide) (by decide) (by decide) (by decide) (by decide)]; exact p7, ⟨h36, h7⟩, by rw [e2, em 33 (by decide) (by decide) (by decide) (by decide) (by decide) (by decide)]; exact p9, by rw [em 34 (by decide) (by decide) (by decide) (by decide) (by decide) (by decide)]; exact p10⟩
/-- the book at hand when a declaration begins -/
def BKh (B : Nat → Int) (e mm i a c : Nat) (t m : St) : Prop := PR t m B e mm 0 i ∧ NmR t m ∧ t.1 302 18 = a ∧ m.1 200 33 = c ∧ a ≤ c ∧ bkS m t m ∧ (t.1 312 1 = 40 ∧ t.1 313 1 = 100 ∧ t.1 314 1 = 60) ∧ m.1 200 13 = m.1 200 14 + m.1 200 15 + m.1 200 16 ∧ t.1 303 6 = 0
/-- while it is read -/
theorem BKh.px (h : BKh B e mm i a c t m) : PXw m B e mm 1 i a c (pI t 303 7 1) (pI m 200 36 1) := by
  obtain ⟨h1, h2, h3, h4, h5, h6, h7, h8, h9⟩ := h
  have hp := h1.2.2.2.2.2.2.2.2.1
  have hmm := h1.1.2.2.2.2.2
  have f1 : FRh t (pI t 303 7 1) 0 := FRh.p
  have f2 : FRm m (pI m 200 36 1) 0 := FRm.p (by unfold PFd; omega)
  refine ⟨h1.mv (k2 := 1) (h1.1.eqP eqP.fld) (fun b hb => by rw [pI_nf hb]) (by rw [pI_ne (by decide)]) (fun b _ _ _ _ _ hb => by rw [pI_nf hb]) (by rw [pI_ne (by decide)]) (by rw [pI_at]) (by rw [pI_at]; rfl), h2.fr f1 f2, by rw [pI_ne (by decide)]; exact h3, ?_, Or.inl rfl, h6.fr f1 f2, by omega⟩
  unfold tpm
  rw [if_pos rfl, pI_nf (by decide), h4]; omega
theorem PXw.m29 {M : St} {k p : Nat} {x : Int} (hk : k = 29 ∨ k = 30) (h : PXw M B e mm kp i a c t m) : PXw M B e mm kp i a c t (pI m k p x) := by
  have e2 : (pI m k p x).1 200 = m.1 200 := pI_ne (by omega)
  have eo : ∀ y, y ≠ k → (pI m k p x).1 y = m.1 y := fun y hy => pI_ne hy
  obtain ⟨⟨p1, p2, p3, p4, p5, p6, p7, p8, p9, p10⟩, ⟨n1, n2, n3, n4, n5⟩, h3, h4, h5, ⟨⟨s1, s2, s3, s4⟩, s5⟩, h7⟩ := h
  have e9 := eo 9 (by omega)
  have e10 := eo 10 (by omega)
  have e11 := eo 11 (by omega)
  have e12 := eo 12 (by omega)
  have hW : nmW (pI m k p x) = nmW m := by funext k i; unfold nmW; rw [e9]
  have hL : nmLen (pI m k p x) = nmLen m := by funext k; unfold nmLen; rw [e10]
  refine ⟨⟨p1, p2, p3.of (fun b _ _ => by rw [e2]) (by rw [eo 0 (by omega)]), p4, p5, p6, by rw [e2]; exact p7, by rw [e2]; exact p8, by rw [e2]; exact p9, by rw [e2]; exact p10⟩, ?_, h3, ?_, h5, ⟨⟨by rw [e2]; exact s1, by rw [e2]; exact s2, by rw [e2]; exact s3, fun f => by rw [eo 18 (by omega)]; exact s4 f⟩, s5⟩, h7⟩
  · unfold NmR
    rw [e2, e10, e11, e12, hW, hL]
    exact ⟨n1, n2, n3, n4, n5⟩
  · unfold tpm at h4 ⊢
    rw [e2]; exact h4
end
