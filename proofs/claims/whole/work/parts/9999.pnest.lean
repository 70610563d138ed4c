/-! reading in lock step: not, groups, chains -/
section
variable {N : Nat} {M : St} {B : Nat → Int} {e mm i a c : Nat} {kp : Int} {t m : St}
theorem tpm_f {x : Int} {f : Nat} (hf : f ≠ 33 ∧ f ≠ 34) : tpm (pI m 200 f x) kp = tpm m kp := by
  unfold tpm; rw [pI_nf (by omega), pI_nf (by omega)]
theorem PR.n6 {y : Int} (h : PR t m B e mm kp i) (hy : 0 ≤ y ∧ y ≤ 30) : PR (pI t 303 6 y) (pI m 200 35 y) B e mm kp i := by
  obtain ⟨p1, p2, p3, p4, p5, p6, p7, p8, p9, p10⟩ := h
  refine ⟨p1.eqP eqP.fld, p2, p3.of (fun b h1 h2 => by rw [pI_nf (by omega)]) (by rw [pI_ne (by decide)]), ?_, ?_, ?_, ?_, ?_, ?_, ?_⟩
  · rw [pI_nf (by omega)]; exact p4
  · rw [pI_nf (by omega)]; exact p5
  · rw [pI_nf (by omega)]; exact p6
  · rw [pI_at, pI_at, pI_nf (by omega), pI_nf (by omega)]; exact ⟨rfl, hy.1, hy.2, p7.2.2.2⟩
  · rw [pI_nf (by omega), pI_nf (by omega)]; exact p8
  · rw [pI_ne (by decide), pI_nf (by omega)]; exact p9
  · rw [pI_nf (by omega)]; exact p10
theorem FRm.n6 {y : Int} : FRm m (pI m 200 35 y) c := FRm.p (by unfold PFd; omega)
theorem PXw.n6 {y : Int} (h : PXw M B e mm kp i a c t m) (hy : 0 ≤ y ∧ y ≤ 30) : PXw M B e mm kp i a c (pI t 303 6 y) (pI m 200 35 y) :=
  ⟨h.1.n6 hy, h.2.1.fr (FRh.p (a := a)) (FRm.n6 (c := c)), by rw [pI_ne (by decide)]; exact h.2.2.1, by rw [tpm_f (by omega)]; exact h.2.2.2.1, h.2.2.2.2.1, h.2.2.2.2.2.1.fr (FRh.p (a := a)) (FRm.n6 (c := c)), h.2.2.2.2.2.2⟩
theorem sim_nest {as : Int} (h : PXw M B e mm kp i a c t m) (hlt : i < mm) (hN : 5000 ≤ N) :
    SIM B e mm t m a c (fun u v => PXw M B e mm kp (i + 1) a (c + 1) u v ∧ FRh t u a ∧ FRm m v c ∧ v.1 31 c = as ∧ u.1 303 6 = t.1 303 6 + 1 ∧ t.1 303 6 < 30 ∧ u.1 303 10 = t.1 303 10 ∧ u.1 303 11 = t.1 303 11) (f_X7_nest N t) (f_X12_opens N as m) := by
  have h7 := h.1.2.2.2.2.2.2.1
  unfold f_X7_nest f_X12_opens
  simp only [lt1_k]
  rw [cmpI_ok (show inR (t.1 303 6) ∧ inR 30 by omega), cmpI_ok (show inR (m.1 200 35) ∧ inR 30 by omega)]
  by_cases h9 : t.1 303 6 < 30
  · rw [if_pos h9, if_neg (by omega)]
    have hn := h.n6 (y := t.1 303 6 + 1) (by omega)
    rw [← h7.1]
    refine sim_bo ((SIM.weak (sim_pass (N := N) (a := a) (c := c) (as := as) hn.1 h.kpp hlt (by rw [hn.2.2.2.1]; exact Nat.le_refl _) hN) FRh.p FRm.n6 (Nat.le_refl a) (Nat.le_refl c)).mono (fun u v f3 => ?_))
    obtain ⟨g1, g2, g3, g4, g5, g6, g7, g8, g9⟩ := hn.nx f3.at1
    exact ⟨g1, FRh.p.tr g2 (Nat.le_refl a), FRm.n6.tr g3 (Nat.le_refl c), g4, by rw [g5, pI_at], h9, by rw [g6, pI_nf (by decide)], by rw [g7, pI_nf (by decide)]⟩
  · rw [if_neg h9, if_pos (by omega)]
    exact Or.inl (flt_bo (flt_w N h.1 (by omega)))
theorem pI_cm {t : St} {k l i j : Nat} {a b : Int} (h : k ≠ l) : pI (pI t k i a) l j b = pI (pI t l j b) k i a := by
  unfold pI
  refine Prod.ext ?_ rfl
  funext x y
  show (bif Nat.beq x l && Nat.beq y j then b else bif Nat.beq x k && Nat.beq y i then a else t.1 x y) = (bif Nat.beq x k && Nat.beq y i then a else bif Nat.beq x l && Nat.beq y j then b else t.1 x y)
  cases hx : Nat.beq x k with
  | false => cases Nat.beq x l && Nat.beq y j <;> rfl
  | true =>
    have e1 := Nat.eq_of_beq_eq_true hx
    have : Nat.beq x l = false := Bool.eq_false_iff.mpr (fun q => h (e1.symm.trans (Nat.eq_of_beq_eq_true q)))
    rw [this]; cases Nat.beq y i <;> rfl
/-- the depth does not matter to a token -/
theorem take_n {k y : Int} (h : PR t m B e mm kp i) (hk : inR k ∧ k < 48) : ∀ (x : Int) (u : St), f_X7_take N k t = some (x, u) → f_X7_take N k (pI t 303 6 y) = some (x, pI u 303 6 y) := by
  intro x u
  have hq := tq_of h
  generalize hhk : cKd B e (ch B e i) = hk9 at hq
  have hr := hq.rng
  unfold f_X7_take
  rw [lt1_k, lt1_k, pI_nf (show (3 : Nat) ≠ 6 by decide), hq.1, cmpI_ok (show inR hk9 ∧ inR k by omega), cmpI_ok (show inR hk9 ∧ inR k by omega)]
  by_cases h9 : hk9 = k
  · rw [if_pos h9, if_pos h9]
    have hlt := tq_lt h (by omega)
    obtain ⟨p1, p2, p3, p4, p5, p6, p7, p8, p9, p10⟩ := h
    have h01 : (if kp = 1 then (1 : Int) else 0) = 0 ∨ (if kp = 1 then (1 : Int) else 0) = 1 := by
      by_cases h1 : kp = 1
      · rw [if_pos h1]; exact Or.inr rfl
      · rw [if_neg h1]; exact Or.inl rfl
    rw [s_pass (N := N) (k9 := if kp = 1 then 1 else 0) p1 hlt p4 p8.2 h01 (by omega)]
    rw [s_pass (N := N) (t := pI t 303 6 y) (k9 := if kp = 1 then 1 else 0) (p1.eqP eqP.fld) hlt (by rw [pI_nf (by decide)]; exact p4) (by rw [pI_nf (by decide)]; exact p8.2) h01 (by rw [pI_ne (by decide)]; omega)]
    rw [pI_ne (show (302 : Nat) ≠ 303 by decide)]
    by_cases h5 : (if kp = 1 then (1 : Int) else 0) = 1 ∧ t.1 302 19 = 6000
    · rw [if_pos h5, if_pos h5, bdI_s, bdI_s, boI_0, boI_0]
      intro q
      cases q
      rw [pI_comm (show (6 : Nat) ≠ 5 by decide)]
    · rw [if_neg h5, if_neg h5, bdI_s, bdI_s, boI_1, boI_1]
      intro q
      cases q
      rw [pI_cm (show (303 : Nat) ≠ 302 by decide), pI_comm (show (6 : Nat) ≠ 2 by decide), pI_comm (show (6 : Nat) ≠ 3 by decide), pI_comm (show (6 : Nat) ≠ 4 by decide)]
  · rw [if_neg h9, if_neg h9, c_wrong, c_wrong, bdI_s, bdI_s, boI_0, boI_0]
    intro q
    cases q
    rw [pI_comm (show (6 : Nat) ≠ 5 by decide)]
theorem FR.n6 {y : Int} (h : FR t m B e mm) : FR (pI t 303 6 y) m B e mm := by
  obtain ⟨h1, i, h2, h3, h4, h5, h6, h7, h8⟩ := h
  exact ⟨h1.eqP eqP.fld, i, h2, by rw [pI_nf (by decide)]; exact h3, h4, by rw [pI_nf (by decide)]; exact h5, h6, h7, by rw [pI_ne (by decide)]; exact h8⟩
theorem sim_sign_n {k y : Int} (h : PR t m B e mm kp i) (hkp : kp = 0 ∨ kp = 1 ∨ kp = 2) (hk : isSg k) (hc : c ≤ tpm m kp) (hN : 5000 ≤ N) : SIM B e mm t m a c (fun u v => ∃ u1, u = pI u1 303 6 y ∧ TKN (B := B) (e := e) (mm := mm) kp i (5000 + k) t m u1 v) (f_X7_take N (40 + sgi k) (pI t 303 6 y)) (f_X12_sign N k m) := by
  have hsr := sgi_rng k
  rcases sim_sign (N := N) (a := a) h hkp hk hc hN with ⟨u, v, h1, h2, h3, h4, h5⟩ | ⟨u, v, h1, h2, h3⟩
  · left
    exact ⟨_, v, take_n h (by omega) _ _ h1, h2, h3.n6, h4.tr FRh.p (Nat.le_refl a), h5⟩
  · right
    exact ⟨_, v, take_n h (by omega) _ _ h1, h2, u, rfl, h3⟩
theorem SIM.bh {Q : St → St → Prop} {F G : Option (Int × St)} (h : SIM B e mm t m a c Q F G) : SIM B e mm t m a c Q (bdI F fun x y => boI x (some (x, y))) G := by
  rcases h with ⟨u, v, h1, h2, h3⟩ | ⟨u, v, h1, h2, h3⟩
  · left; exact ⟨u, v, by rw [h1, bdI_s, boI_0], h2, h3⟩
  · right; exact ⟨u, v, by rw [h1, bdI_s, boI_1], h2, h3⟩
theorem SIM.bg {Q : St → St → Prop} {F G : Option (Int × St)} (h : SIM B e mm t m a c Q F G) : SIM B e mm t m a c Q F (bdI G fun x y => boI x (some (x, y))) := by
  rcases h with ⟨u, v, h1, h2, h3⟩ | ⟨u, v, h1, h2, h3⟩
  · left; exact ⟨u, v, h1, by rw [h2, bdI_s, boI_0], h3⟩
  · right; exact ⟨u, v, h1, by rw [h2, bdI_s, boI_1], h3⟩
theorem cnL_sp {tk : Nat → Int} {c x d : Nat} (h1 : c ≤ x) (h2 : x ≤ d) : cnL tk c (d - c) = cnL tk c (x - c) + cnL tk x (d - x) := by
  have := cnL_add (tk := tk) (c := c) (k := x - c) (d - x)
  rw [show x - c + (d - x) = d - c by omega, show c + (x - c) = x by omega] at this
  exact this
theorem cnL_1 {tk : Nat → Int} {c : Nat} : cnL tk c (c + 1 - c) = if tk c = 22 ∨ tk c = 23 ∨ tk c = 30 then 1 else 0 := by
  rw [show c + 1 - c = 0 + 1 by omega, cnL_s, Nat.add_zero]
  show 0 + _ = _
  omega
end
/-- a relation of code and tokens -/
abbrev CTR := (Nat → Int) → (Nat → Int) → Nat → Nat → Nat → Nat → Prop
def RWy (X : Bool → CTR) (Y : Int → Prop) (M : St) (B : Nat → Int) (e mm : Nat) (kp : Int) (i a c : Nat) (t m u v : St) : Prop := ∃ fl : Bool, RWw (X fl) M B e mm kp i a c t m u v ∧ (fl = true ∨ (u.1 303 3 ≠ 24 ∧ u.1 303 3 ≠ 25)) ∧ Y (u.1 303 3)
/-- two readers in lock step -/
def PRd (X : Bool → CTR) (Y : Int → Prop) (M : St) (B : Nat → Int) (e mm : Nat) (kp : Int) (H : Nat) (fH fM : St → Option (Int × St)) : Prop := ∀ (i a c : Nat) (t m : St), PXw M B e mm kp i a c t m → t.1 303 6 + (H : Int) = 30 → SIM B e mm t m a c (RWy X Y M B e mm kp i a c t m) (fH t) (fM m)
/-- it is about its stretch only -/
def CTc (X : CTR) : Prop := ∀ (cd tk cd2 tk2 : Nat → Int) (a b c d : Nat), X cd tk a b c d → (∀ x, a ≤ x → x < b → cd2 x = cd x) → (∀ x, c ≤ x → x < d → tk2 x = tk x) → X cd2 tk2 a b c d
def CTl (X : CTR) : Prop := ∀ (cd tk : Nat → Int) (a b c d : Nat), X cd tk a b c d → a < b ∧ c < d
section
variable {N : Nat} {M : St} {B : Nat → Int} {e mm i a c : Nat} {kp : Int} {t m : St}
theorem pd_not {X X2 : Bool → CTR} {Y : Int → Prop} {H : Nat} {fS : Int → St → Option (Int × St)} {fO : St → Option (Int × St)} {a0 pc : Int} (h : PXw M B e mm kp i a c t m) (h6 : t.1 303 6 + (H : Int) = 30) (hk : cKd B e (ch B e i) = 26) (hp : (a0 = 0 ∧ pc = 12) ∨ (a0 = 1 ∧ pc = 16)) (hN : 5000 ≤ N)
    (hI : ∀ H2 : Nat, H = H2 + 1 → PRd X Y M B e mm kp H2 (fS a0) fO) (hl : ∀ fl, CTl (X fl)) (hcg : ∀ fl, CTc (X fl)) (hX : ∀ (fl : Bool) (cd tk : Nat → Int) (a b c d : Nat), 0 < H → X fl cd tk a b (c + 1) d → cd b = pc → tk c = 26 → X2 fl cd tk a (b + 1) c d) :
    SIM B e mm t m a c (RWy X2 (fun _ => True) M B e mm kp i a c t m) (o_X7_readNot N fS a0 t) (bdI (f_X12_opens N 26 m) fun v58 t57 => cmpI v58 0 (if v58 = 0 then (boI 0 (some (0, t57))) else (bdI (fO t57) fun v60 t59 => cmpI v60 0 (if v60 = 0 then (boI 0 (some (0, t59))) else boI 1 (some (1, pI t59 200 35 (t59.1 200 35 - 1))))))) := by
  have hlt := tq_lt h.1 (by omega)
  unfold o_X7_readNot
  simp only [lt1_k, jn1_k]
  refine SIM.bind (sim_nest (as := 26) h hlt hN) (fun u v ⟨g1, g2, g3, g4, g5, g6, g7, g8⟩ => ?_)
  obtain ⟨H2, rfl⟩ : ∃ H2, H = H2 + 1 := ⟨H - 1, by omega⟩
  refine SIM.bind (SIM.weak (hI H2 rfl (i + 1) a (c + 1) u v g1 (by omega)) g2 g3 (Nat.le_refl a) (by omega)) (fun u2 v2 hR => ?_)
  obtain ⟨fl, ⟨i2, b, d, r1, r2, r3, r4, r5, r6, r7, r8, r9, r10, r11, r12⟩, r13, r14⟩ := hR
  have hab := hl fl _ _ _ _ _ _ r9
  right
  have hj := r2.1.2.2.2.2.2.2.1
  have hj0 := h.1.2.2.2.2.2.2.1
  have hn := r2.n6 (y := u2.1 303 6 - 1) (by omega)
  have hi2 := r2.1.2.1
  have hV := h.2.2.2.2.2.2
  have e1 : (pI u2 303 6 (u2.1 303 6 - 1)).1 303 10 = u2.1 303 10 := by rw [pI_nf (by decide)]
  have hw31 : v2.1 31 c = 26 := by rw [r4.1 31 c (by omega) (by omega) (by omega)]; exact g4
  refine ⟨PU (pI u2 303 6 (u2.1 303 6 - 1)) b (0 * 64 + pc), pI v2 200 35 (v2.1 200 35 - 1), ?_, by rw [boI_1], fl, ⟨i2, b + 1, d, by omega, ?_, ((g2.tr r3 (Nat.le_refl a)).tr FRh.p (Nat.le_refl a)).tr (FRh.U hn.2.2.1 (by omega) (by omega)) (Nat.le_refl a), (g3.tr r4 (by omega)).tr FRm.n6 (Nat.le_refl c), by omega, by omega, ?_, ?_, ?_, ?_, ?_, ?_⟩, ?_, trivial⟩
  · rcases hp with ⟨rfl, rfl⟩ | ⟨rfl, rfl⟩
    · rw [cmpI_ok (by omega), if_pos rfl, h_putK hn.2.2.1 (by omega) (by omega) (by omega), bdI_s, boI_1]
    · rw [cmpI_ok (by omega), if_neg (by decide), h_putK hn.2.2.1 (by omega) (by omega) (by omega), bdI_s, boI_1]
  · rw [← hj.1]; exact hn.U (by omega)
  · rw [PU_ne (by decide) (by decide), pI_at]; omega
  · rw [PU_ne (by decide) (by decide), pI_nf (by decide), r8, g8]
  · refine hX fl _ _ _ _ _ _ (by omega) (hcg fl _ _ _ _ _ _ _ _ r9 (fun x h1 h2 => ?_) (fun x h1 h2 => ?_)) ?_ ?_
    · rw [PU_nf (by omega), pI_ne (by decide)]
    · rw [pI_ne (by decide)]
    · rw [PU_at]; omega
    · rw [pI_ne (by decide)]; exact hw31
  · obtain ⟨kd, vl, q1, q2, q3, q4, q5⟩ := r10
    exact ⟨kd, vl, q1, q2, q3, q4, by rw [PU_nf (by omega), pI_ne (by decide)]; exact q5⟩
  · intro x h1 h2
    rw [pI_ne (by decide)]
    by_cases hxc : x = c
    · rw [hxc, hw31]; left; omega
    · exact r11 x (by omega) h2
  · rw [PU_ne (by decide) (by decide), e1, r12, g7, pI_ne (by decide), cnL_sp (show c ≤ c + 1 by omega) (show c + 1 ≤ d by omega), cnL_1, hw31, if_neg (by omega)]
    omega
  · rw [PU_ne (by decide) (by decide), pI_nf (by decide)]; exact r13
theorem pd_gr {X : Bool → CTR} {X2 : CTR} {Y : Int → Prop} {H : Nat} {fE : Int → St → Option (Int × St)} {fT : St → Option (Int × St)} {a0 : Int} (h : PXw M B e mm kp i a c t m) (h6 : t.1 303 6 + (H : Int) = 30) (hk : cKd B e (ch B e i) = 42) (hN : 5000 ≤ N)
    (hI : ∀ H2 : Nat, H = H2 + 1 → PRd X Y M B e mm kp H2 (fE a0) fT) (hl : ∀ fl, CTl (X fl)) (hcg : ∀ fl, CTc (X fl)) (hX : ∀ (fl : Bool) (cd tk : Nat → Int) (a b c d : Nat), 0 < H → X fl cd tk a b (c + 1) d → tk d = 5041 → tk c = 5040 → X2 cd tk a b c (d + 1)) :
    SIM B e mm t m a c (RWw X2 M B e mm kp i a c t m) (o_X7_readGroup N fE a0 t) (bdI (f_X12_opensBy N 40 m) fun v68 t67 => cmpI v68 0 (if v68 = 0 then (boI 0 (some (0, t67))) else (bdI (fT t67) fun v70 t69 => cmpI v70 0 (if v70 = 0 then (boI 0 (some (0, t69))) else (bdI (f_X12_closesBy N 41 t69) fun v72 t71 => cmpI v72 0 (if v72 = 0 then (boI 0 (some (0, t71))) else (boI 1 (some (1, t71))))))))) := by
  have hlt := tq_lt h.1 (by omega)
  have hq := h.kd
  rw [hk] at hq
  have hob : f_X12_opensBy N 40 m = bdI (f_X12_opens N 5040 m) fun x y => boI x (some (x, y)) := by
    unfold f_X12_opensBy
    rw [k_isSign hq (by unfold isSg; omega), bdI_s, if_pos (by rw [show sgi 40 = 2 from rfl]; omega), cmpI_ok (by omega), if_neg (by decide)]
    rfl
  unfold o_X7_readGroup
  rw [hob]
  simp only [lt1_k, jn1_k]
  refine SIM.bind (SIM.bg (sim_nest (as := 5040) h hlt hN)) (fun u v ⟨g1, g2, g3, g4, g5, g6, g7, g8⟩ => ?_)
  obtain ⟨H2, rfl⟩ : ∃ H2, H = H2 + 1 := ⟨H - 1, by omega⟩
  refine SIM.bind (SIM.weak (hI H2 rfl (i + 1) a (c + 1) u v g1 (by omega)) g2 g3 (Nat.le_refl a) (by omega)) (fun u2 v2 hR => ?_)
  obtain ⟨fl, ⟨i2, b, d, r1, r2, r3, r4, r5, r6, r7, r8, r9, r10, r11, r12⟩, r13, r14⟩ := hR
  have hab := hl fl _ _ _ _ _ _ r9
  have hj := r2.1.2.2.2.2.2.2.1
  have hj0 := h.1.2.2.2.2.2.2.1
  have hw31 : v2.1 31 c = 5040 := by rw [r4.1 31 c (by omega) (by omega) (by omega)]; exact g4
  have hs := SIM.weak (sim_sign_n (N := N) (a := b) (c := d) (k := 41) (y := u2.1 303 6 - 1) r2.1 h.kpp (by unfold isSg; omega) (by rw [r2.2.2.2.1]; exact Nat.le_refl _) hN) (g2.tr r3 (Nat.le_refl a)) (g3.tr r4 (by omega)) (show a ≤ b by omega) (show c ≤ d by omega)
  rw [show (40 : Int) + sgi 41 = 43 from rfl] at hs
  rcases hs with ⟨w, z, q1, q2, q3⟩ | ⟨w, z, q1, q2, u1, rfl, q6⟩
  · left
    refine ⟨w, z, by rw [q1, bdI_s, boI_0], ?_, q3⟩
    have : f_X12_closesBy N 41 v2 = some (0, z) := by
      unfold f_X12_closesBy
      rw [q2, bdI_s, cmpI_ok (by omega), if_pos rfl, boI_0]
    rw [this, bdI_s, cmpI_ok (by omega), if_pos rfl, boI_0]
  · right
    obtain ⟨k1, k2, k3, k4, k5, k6, k7, k8, k9⟩ := r2.nx q6.at1
    have hj2 := k1.1.2.2.2.2.2.2.1
    have hn := k1.n6 (y := u2.1 303 6 - 1) (by omega)
    have hi2 := r2.1.2.1
    have hV := h.2.2.2.2.2.2
    have hcl : f_X12_closesBy N 41 v2 = some (1, pI z 200 35 (u2.1 303 6 - 1)) := by
      unfold f_X12_closesBy
      rw [q2, bdI_s, cmpI_ok (by omega), if_neg (by decide)]
      simp only [lt1_k]
      rw [boI_1, show z.1 200 35 = u2.1 303 6 by omega]
    refine ⟨pI u1 303 6 (u2.1 303 6 - 1), pI z 200 35 (u2.1 303 6 - 1), by rw [q1, bdI_s, boI_1], by rw [hcl, bdI_s, cmpI_ok (by omega), if_neg (by decide), boI_1], i2 + 1, b, d + 1, by omega, hn, ((g2.tr r3 (Nat.le_refl a)).tr k2 (by omega)).tr FRh.p (Nat.le_refl a), ((g3.tr r4 (by omega)).tr k3 (by omega)).tr FRm.n6 (Nat.le_refl c), by omega, by omega, ?_, ?_, ?_, ?_, ?_, ?_⟩
    · rw [pI_at]; omega
    · rw [pI_nf (by decide), k7, r8, g8]
    · refine hX fl _ _ _ _ _ _ (by omega) (hcg fl _ _ _ _ _ _ _ _ r9 (fun x h1 h2 => ?_) (fun x h1 h2 => ?_)) ?_ ?_
      · rw [pI_ne (by decide), k8]
      · rw [pI_ne (by decide), k9 x (by omega)]
      · rw [pI_ne (by decide), k4]; omega
      · rw [pI_ne (by decide), k9 c (by omega)]; exact hw31
    · rw [pI_ne (by decide), k8]; exact r10
    · intro x h1 h2
      rw [pI_ne (by decide)]
      by_cases hxd : x = d
      · rw [hxd, k4]; right; right; omega
      · rw [k9 x hxd]
        by_cases hxc : x = c
        · rw [hxc, hw31]; right; left; rfl
        · exact r11 x (by omega) (by omega)
    · rw [pI_nf (by decide), k6, r12, g7, pI_ne (by decide), cnL_sp (show c ≤ c + 1 by omega) (show c + 1 ≤ d + 1 by omega), cnL_sp (show c + 1 ≤ d by omega) (show d ≤ d + 1 by omega), cnL_1, cnL_1, k9 c (by omega), hw31, k4, if_neg (by omega), if_neg (by omega), cnL_cong (tk := z.1 31) (tk2 := v2.1 31) (c := c + 1) (d - (c + 1)) (fun x h1 h2 => k9 x (by omega))]
      omega
/-- a chain -/
theorem pd_lp {X1 X2 : Bool → CTR} {Y : Int → Prop} {H : Nat} {LH : Nat → Int → St → Option (Int × St)} {LM : Nat → St → Option (Int × St)} {fH fM : St → Option (Int × St)} {w pc : Int} (hw : (w = 24 ∧ pc = 11) ∨ (w = 25 ∧ pc = 10)) (hN : 5000 ≤ N)
    (hLH : ∀ n x t, LH (n + 1) x t = cmpI x 4096 (if x < 4096 then (lt1 (t.1 303 3) fun v7 => cmpI v7 w (if v7 = w then (bdI (f_X7_pass N t) fun v9 t8 => cmpI v9 0 (if v9 = 0 then (boI 0 (some (0, t8))) else (bdI (fH t8) fun v11 t10 => cmpI v11 0 (if v11 = 0 then (boI 0 (some (0, t10))) else (bdI (f_X0_put N pc 0 t10) fun _ t12 => LH n (x + 1) t12))))) else boI 1 (some (1, t)))) else boI 1 (some (1, t))))
    (hLM : ∀ n t, LM (n + 1) t = bdI (f_X12_isKey N w t) fun v6 t5 => cmpI v6 0 (if v6 = 0 then boI 1 (some (1, t5)) else (bdI (f_X12_key N w t5) fun v8 t7 => cmpI v8 0 (if v8 = 0 then (boI 0 (some (0, t7))) else (bdI (fM t7) fun v10 t9 => cmpI v10 0 (if v10 = 0 then (boI 0 (some (0, t9))) else LM n t9))))))
    (hI : PRd X1 Y M B e mm kp H fH fM) (hl1 : ∀ fl, CTl (X1 fl)) (hl2 : ∀ fl, CTl (X2 fl)) (hc1 : ∀ fl, CTc (X1 fl)) (hc2 : ∀ fl, CTc (X2 fl))
    (hj : ∀ (fl : Bool) (cd tk : Nat → Int) (a b c d b2 d2 : Nat), X2 true cd tk a b c d → X1 fl cd tk b b2 (d + 1) d2 → cd b2 = pc → tk d = w → X2 fl cd tk a (b2 + 1) c d2)
    (h : PXw M B e mm kp i a c t m) (h6 : t.1 303 6 + (H : Int) = 30) : ∀ (k n n2 x i2 b d : Nat) (fl : Bool) (u v : St), mm - i2 ≤ k → k < n → k < n2 → x < i2 → i < i2 → PXw M B e mm kp i2 b d u v → FRh t u a → FRm m v c → b + i ≤ a + i2 → d + i = c + i2 → u.1 303 6 = t.1 303 6 → u.1 303 11 = t.1 303 11 → X2 fl (u.1 363) (v.1 31) a b c d → LFc (u.1 363) a → (∀ x, c ≤ x → x < d → WTk (v.1 31 x)) → u.1 303 10 = t.1 303 10 + cnL (v.1 31) c (d - c) → (fl = true ∨ (u.1 303 3 ≠ 24 ∧ u.1 303 3 ≠ 25)) → Y (u.1 303 3) →
      SIM B e mm t m a c (RWy X2 (fun k => Y k ∧ k ≠ w) M B e mm kp i a c t m) (LH n x u) (LM n2 v) := by
  intro k
  induction k with
  | zero =>
    intro n n2 x i2 b d fl u v z1 z2 z3 z4 z5 r2 r3 r4 r5 r6 r7 r8 r9 r10 r11 r12 r13 r14
    obtain ⟨n, rfl⟩ : ∃ k, n = k + 1 := ⟨n - 1, by omega⟩
    obtain ⟨n2, rfl⟩ : ∃ k, n2 = k + 1 := ⟨n2 - 1, by omega⟩
    have hq := r2.kd
    generalize hk9 : cKd B e (ch B e i2) = k9 at *
    have hr := hq.rng
    have hi2 := r2.1.2.1
    have hmm := r2.1.1.2.2.2.2.2
    have hne : k9 ≠ w := by
      intro h9
      have := tq_lt r2.1 (by omega)
      omega
    right
    refine ⟨u, v, ?_, ?_, fl, ⟨i2, b, d, z5, r2, r3, r4, r5, r6, r7, r8, r9, r10, r11, r12⟩, r13, r14, by rw [hq.1]; exact hne⟩
    · rw [hLH, cmpI_ok (by omega), if_pos (by omega), lt1_k, hq.1, cmpI_ok (by omega), if_neg hne, boI_1]
    · rw [hLM, k_isKey hq (by omega), if_neg hne, bdI_s, cmpI_ok (by omega), if_pos rfl, boI_1]
  | succ k ih =>
    intro n n2 x i2 b d fl u v z1 z2 z3 z4 z5 r2 r3 r4 r5 r6 r7 r8 r9 r10 r11 r12 r13 r14
    obtain ⟨n, rfl⟩ : ∃ k, n = k + 1 := ⟨n - 1, by omega⟩
    obtain ⟨n2, rfl⟩ : ∃ k, n2 = k + 1 := ⟨n2 - 1, by omega⟩
    have hq := r2.kd
    generalize hk9 : cKd B e (ch B e i2) = k9 at *
    have hr := hq.rng
    have hi2 := r2.1.2.1
    have hmm := r2.1.1.2.2.2.2.2
    rw [hLH, hLM, cmpI_ok (by omega), if_pos (show (x : Int) < 4096 by omega), lt1_k, hq.1, cmpI_ok (show inR k9 ∧ inR w by omega), k_isKey hq (by omega), bdI_s]
    by_cases hne : k9 = w
    · have hlt := tq_lt r2.1 (by omega)
      have hfl : fl = true := r13.elim id (fun q => by rw [hq.1] at q; omega)
      subst hfl
      rw [if_pos hne, if_pos hne, cmpI_ok (by omega), if_neg (by decide)]
      have hky : f_X12_key N w v = bdI (f_X12_takes N w v) fun x y => boI x (some (x, y)) := by
        unfold f_X12_key
        rw [k_isKey hq (by omega), bdI_s, if_pos hne, cmpI_ok (by omega), if_neg (by decide)]
      rw [hky]
      have hab := hl2 true _ _ _ _ _ _ r9
      refine SIM.bind (SIM.bg (SIM.weak (sim_pass (N := N) (a := b) (c := d) (as := w) r2.1 h.kpp hlt (by rw [r2.2.2.2.1]; exact Nat.le_refl _) hN) r3 r4 (show a ≤ b by omega) (show c ≤ d by omega))) (fun u2 v2 f3 => ?_)
      obtain ⟨g1, g2, g3, g4, g5, g6, g7, g8, g9⟩ := r2.nx f3.at1
      refine SIM.bind (SIM.weak (hI (i2 + 1) b (d + 1) u2 v2 g1 (by omega)) (r3.tr g2 (by omega)) (r4.tr g3 (by omega)) (show a ≤ b by omega) (show c ≤ d + 1 by omega)) (fun u3 v3 hR => ?_)
      obtain ⟨fl2, ⟨i3, b2, d2, s1, s2, s3, s4, s5, s6, s7, s8, s9, s10, s11, s12⟩, s13, s14⟩ := hR
      have hab2 := hl1 fl2 _ _ _ _ _ _ s9
      have hV := h.2.2.2.2.2.2
      have hi3 := s2.1.2.1
      have e31 : ∀ y, y < d → v3.1 31 y = v.1 31 y := fun y hy => by rw [s4.1 31 y (by omega) (by omega) (by omega), g9 y (by omega)]
      have e31d : v3.1 31 d = w := by rw [s4.1 31 d (by omega) (by omega) (by omega)]; exact g4
      have e363 : ∀ y, y < b → u3.1 363 y = u.1 363 y := fun y hy => by rw [s3.1 363 y (by omega) (by omega) (by omega), g8]
      rw [h_putK s2.2.2.1 (by omega) (by omega) (by omega), bdI_s, show (x : Int) + 1 = ((x + 1 : Nat) : Int) by omega]
      refine ih n n2 (x + 1) i3 (b2 + 1) d2 fl2 (PU u3 b2 (0 * 64 + pc)) v3 (by omega) (by omega) (by omega) (by omega) (by omega) (s2.U (by omega)) (((r3.tr g2 (by omega)).tr s3 (by omega)).tr (FRh.U s2.2.2.1 (by omega) (by omega)) (Nat.le_refl a)) ((r4.tr g3 (by omega)).tr s4 (by omega)) (by omega) (by omega) ?_ ?_ ?_ ?_ ?_ ?_ ?_ ?_
      · rw [PU_ne (by decide) (by decide), s7, g5, r7]
      · rw [PU_ne (by decide) (by decide), s8, g7, r8]
      · refine hj fl2 _ _ a b c d b2 d2 (hc2 true _ _ _ _ _ _ _ _ r9 (fun y h1 h2 => ?_) (fun y h1 h2 => e31 y h2)) (hc1 fl2 _ _ _ _ _ _ _ _ s9 (fun y h1 h2 => ?_) (fun y h1 h2 => rfl)) ?_ e31d
        · rw [PU_nf (by omega)]; exact e363 y h2
        · rw [PU_nf (by omega)]
        · rw [PU_at]; omega
      · obtain ⟨kd, vl, q1, q2, q3, q4, q5⟩ := r10
        exact ⟨kd, vl, q1, q2, q3, q4, by rw [PU_nf (by omega), e363 a (by omega)]; exact q5⟩
      · intro y h1 h2
        by_cases hy : y < d
        · rw [e31 y hy]; exact r11 y h1 hy
        · by_cases hyd : y = d
          · rw [hyd, e31d]; left; omega
          · exact s11 y (by omega) h2
      · rw [PU_ne (by decide) (by decide), s12, g6, r12, cnL_sp (show c ≤ d by omega) (show d ≤ d2 by omega), cnL_sp (show d ≤ d + 1 by omega) (show d + 1 ≤ d2 by omega), cnL_1, e31d, if_neg (by omega), cnL_cong (tk := v3.1 31) (tk2 := v.1 31) (c := c) (d - c) (fun y h1 h2 => e31 y (by omega))]
        omega
      · rw [PU_ne (by decide) (by decide)]; exact s13
      · rw [PU_ne (by decide) (by decide)]; exact s14
    · rw [if_neg hne, if_neg hne, cmpI_ok (by omega), if_pos rfl]
      right
      exact ⟨u, v, by rw [boI_1], by rw [boI_1], fl, ⟨i2, b, d, z5, r2, r3, r4, r5, r6, r7, r8, r9, r10, r11, r12⟩, r13, r14, by rw [hq.1]; exact hne⟩
end
