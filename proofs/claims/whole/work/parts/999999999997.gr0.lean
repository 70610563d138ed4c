/-! all that holds between two calls (history apart) -/
def Gb (t m : St) : Prop := BK0 t m ∧ kwOK t ∧ TXt t m ∧ (t.1 300 13 = m.1 200 8 ∧ 0 ≤ m.1 200 8 ∧ m.1 200 8 ≤ 7)
def Gf (n c : Nat) (t m : St) : Prop := (1 ≤ n ∧ EVr 0 t m n) ∧ (∀ d, d < n → t.1 393 d = m.1 41 d ∧ -(8 * (c : Int)) ≤ m.1 41 d ∧ m.1 41 d ≤ 8 * (c : Int)) ∧ (∀ d, d < n → m.1 38 d ≤ 4 * ((n : Int) - 1) ∧ m.1 39 d ≤ 4 * ((n : Int) - 1)) ∧ AIMr n t m ∧ (∀ d, d < n → m.1 47 d ≤ 4 * ((n : Int) - 1) ∧ m.1 48 d ≤ 4 * ((n : Int) - 1)) ∧ 0 ≤ t.1 305 9 ∧ t.1 305 9 ≤ 1 + (c : Int)
def Gr (n c : Nat) (t m : St) : Prop := ((t.1 307 2 = 0 ∧ m.1 200 50 = 0) ∨ (t.1 307 2 = 1 ∧ m.1 200 50 = 1 ∧ m.1 200 52 = 0 ∧ ∃ k h a, RUNP 0 n t m k h a)) ∧ (t.1 307 8 = 0 ∧ m.1 200 54 = 0) ∧ (0 ≤ t.1 307 9 ∧ t.1 307 9 ≤ 29000 + 9000 * (c : Int)) ∧ (0 ≤ m.1 200 53 ∧ m.1 200 53 ≤ 29000 + 9000 * (c : Int)) ∧ 0 ≤ t.1 307 10 ∧ t.1 307 10 ≤ (c : Int)
def Gn (c : Nat) (t m : St) : Prop := (t.1 300 11 = m.1 200 42 ∧ 0 ≤ m.1 200 42 ∧ m.1 200 42 ≤ 64 * (c : Int)) ∧ (t.1 300 12 = m.1 200 43 ∧ 0 ≤ m.1 200 43 ∧ m.1 200 43 ≤ (c : Int)) ∧ (t.1 300 14 = m.1 200 67 ∧ t.1 300 15 = m.1 200 68 ∧ t.1 300 16 = m.1 200 69) ∧ inR (m.1 200 67) ∧ inR (m.1 200 68) ∧ inR (m.1 200 69)
def Gt (c : Nat) (t m : St) : Prop := (FLr 1 t ∧ LIn t) ∧ ∃ e : Nat, e ≤ 10000 ∧ t.1 310 13 = e ∧ m.1 200 89 = e ∧ t.1 304 11 ≤ 128064 * (c : Int) + 2048 * (e : Int) ∧ 0 ≤ t.1 306 9 ∧ t.1 306 9 ≤ 1 + 2002 * (c : Int) + (e : Int)
def GR0 (n c : Nat) (t m : St) : Prop := Gb t m ∧ Gf n c t m ∧ Gr n c t m ∧ Gn c t m ∧ Gt c t m ∧ GRs t m
section
variable {n c : Nat} {t m u v : St}
theorem Gf.up (h : Gf n c t m) : Gf n (c + 1) t m := by
  obtain ⟨h1, h2, h3, h4, h5, h6, h7⟩ := h
  refine ⟨h1, fun d hd => ?_, h3, h4, h5, h6, by omega⟩
  have := h2 d hd
  exact ⟨this.1, by omega, by omega⟩
theorem Gr.up (h : Gr n c t m) : Gr n (c + 1) t m := by
  obtain ⟨h1, h2, h3, h4, h5⟩ := h
  exact ⟨h1, h2, by omega, by omega, by omega⟩
theorem Gn.up (h : Gn c t m) : Gn (c + 1) t m := by
  obtain ⟨h1, h2, h3⟩ := h
  exact ⟨by omega, by omega, h3⟩
theorem Gt.up (h : Gt c t m) : Gt (c + 1) t m := by
  obtain ⟨h1, e, h2, h3, h4, h5, h6, h7⟩ := h
  exact ⟨h1, e, h2, h3, h4, by omega, h6, by omega⟩
theorem GR0.up (h : GR0 n c t m) : GR0 n (c + 1) t m := ⟨h.1, h.2.1.up, h.2.2.1.up, h.2.2.2.1.up, h.2.2.2.2.1.up, h.2.2.2.2.2⟩
/-- a floor, where the book may have grown -/
theorem EVr.bk {o : Nat} (h : EVr o t m n) (hB : BK0 u v) (gC : CIk u) (g : ∀ x, (x = 305 + o ∨ (390 + 10 * o ≤ x ∧ x ≤ 397 + 10 * o)) → u.1 x = t.1 x) (gL : u.2 (396 + 10 * o) = t.2 (396 + 10 * o)) (e : ∀ d, d < n → v.1 38 d = m.1 38 d ∧ v.1 39 d = m.1 39 d ∧ v.1 40 d = m.1 40 d) (eh : hGd o v → hGd o m ∧ ∀ d, d < n → v.1 44 d = m.1 44 d ∧ v.1 45 d = m.1 45 d ∧ v.1 46 d = m.1 46 d) (e37 : v.1 200 37 = m.1 200 37) : EVr o u v n := by
  obtain ⟨ho, h1, h2, h3, h4, h5, h6, h7, h8⟩ := h
  have hb := hB.eb gC
  refine ⟨ho, ⟨⟨by rw [e37]; exact h1.1.1, FXs_cong h1.1.2 e⟩, ?_⟩, fun i hi => ?_, fun fc d hf hd => ?_, fun hg d hd => ?_, gC, by rw [g (305 + o) (by omega)]; exact h6, hb.2.1, hb.2.2⟩
  · refine FH_cong (X := m.1 38) (Y := m.1 39) (W := m.1 40) ?_ e
    unfold FH
    rw [g (305 + o) (by omega), g (390 + 10 * o) (by omega), g (391 + 10 * o) (by omega), g (392 + 10 * o) (by omega), g (397 + 10 * o) (by omega)]
    exact h1.2
  · rw [g (395 + 10 * o) (by omega)]
    unfold odM
    rw [ord9_cong (X := v.1 38) (Y := v.1 39) (X2 := m.1 38) (Y2 := m.1 39) (fun d hd => ⟨(e d hd).1, (e d hd).2.1⟩)]
    exact h2 i hi
  · rw [gL, h3 fc d hf hd]
    apply Bool.eq_iff_iff.mpr
    rw [decide_eq_true_iff, decide_eq_true_iff]
    constructor
    · intro h; exact ⟨h.1, by rw [(e d h.1).2.2]; exact h.2⟩
    · intro h; exact ⟨h.1, by rw [← (e d h.1).2.2]; exact h.2⟩
  · obtain ⟨hg2, e4⟩ := eh hg
    rw [(e4 d hd).1, (e4 d hd).2.1, (e4 d hd).2.2, g (394 + 10 * o) (by omega)]
    exact h4 hg2 d hd
theorem Gb.mv (h : Gb t m) (hB : BK0 u v) (g1 : u.2 331 = t.2 331) (g2 : u.1 301 1 = t.1 301 1 ∧ u.1 330 = t.1 330) (g3 : u.1 300 13 = t.1 300 13) (e1 : v.1 200 1 = m.1 200 1) (e2 : v.1 0 = m.1 0) (e3 : v.1 200 8 = m.1 200 8) : Gb u v := by
  obtain ⟨_, h2, h3, h4⟩ := h
  refine ⟨hB, by unfold kwOK; rw [g1]; exact h2, ?_, by rw [g3, e3]; exact h4⟩
  unfold TXt mBy
  rw [g2.1, g2.2, e1, e2]
  exact h3
theorem Gf.mv (h : Gf n c t m) (hB : BK0 u v) (gC : CIk u) (g : ∀ x, (x = 305 ∨ x = 320 ∨ (390 ≤ x ∧ x ≤ 397)) → u.1 x = t.1 x) (gL : u.2 396 = t.2 396) (e : ∀ d, d < 64 → v.1 38 d = m.1 38 d ∧ v.1 39 d = m.1 39 d ∧ v.1 40 d = m.1 40 d ∧ v.1 41 d = m.1 41 d ∧ v.1 44 d = m.1 44 d ∧ v.1 45 d = m.1 45 d ∧ v.1 46 d = m.1 46 d) (e47 : v.1 47 = m.1 47 ∧ v.1 48 = m.1 48 ∧ v.1 49 = m.1 49) (e37 : v.1 200 37 = m.1 200 37) : Gf n c u v := by
  obtain ⟨⟨h0, hE⟩, h2, h3, h4, h5, h6⟩ := h
  have h64 := hE.n64
  refine ⟨⟨h0, hE.bk hB gC (fun x hx => g x (by omega)) gL (fun d hd => ⟨(e d (by omega)).1, (e d (by omega)).2.1, (e d (by omega)).2.2.1⟩) (fun _ => ⟨Or.inl rfl, fun d hd => (e d (by omega)).2.2.2.2⟩) e37⟩, fun d hd => ?_, fun d hd => ?_, ?_, by rw [e47.1, e47.2.1]; exact h5, by rw [g 305 (by omega)]; exact h6⟩
  · rw [g 393 (by omega), (e d (by omega)).2.2.2.1]; exact h2 d hd
  · rw [(e d (by omega)).1, (e d (by omega)).2.1]; exact h3 d hd
  · unfold AIMr
    rw [g 320 (by omega), e47.1, e47.2.1, e47.2.2]
    exact h4
theorem RF.kk {X : CTE} {m0 : St} {L : Int} {S : Nat → Int64} {P Q Z : Nat → Int} {W : Nat → Int64} {k h a : Nat} (g : RF X m0 L n S P Q Z W k h a) : k < 1500 := by
  obtain ⟨M, f, b, c, d, s, q, h1, _⟩ := g
  obtain ⟨_, _, _, _, _, h2, _⟩ := h1
  omega
theorem Gr.mv (h : Gr n c t m) (hG : BGr (XC t m) m (t.1 302 18) (XC u v) v (u.1 302 18)) (g1 : ∀ b, b ≠ 7 → u.1 307 b = t.1 307 b) (g2 : u.2 307 = t.2 307 ∧ u.2 410 = t.2 410) (e : ∀ d, d < 1600 → v.1 55 d = m.1 55 d ∧ v.1 56 d = m.1 56 d ∧ v.1 57 d = m.1 57 d ∧ v.2 58 d = m.2 58 d) (e2 : ∀ b, b = 50 ∨ b = 51 ∨ b = 52 ∨ b = 54 → v.1 200 b = m.1 200 b) (e53 : 0 ≤ v.1 200 53 ∧ v.1 200 53 ≤ 29000 + 9000 * (c : Int)) : Gr n c u v := by
  obtain ⟨h1, h2, h3, h4, h5⟩ := h
  refine ⟨?_, by rw [g1 8 (by decide), e2 54 (by omega)]; exact h2, by rw [g1 9 (by decide)]; exact h3, e53, by rw [g1 10 (by decide)]; exact h5⟩
  rw [g1 2 (by decide), e2 50 (by omega)]
  rcases h1 with h1 | ⟨r1, r2, r3, k, hh, a, ⟨p1, p2, p3, p4⟩, p5⟩
  · exact Or.inl h1
  · have hk := p5.kk
    refine Or.inr ⟨r1, r2, by rw [e2 52 (by omega)]; exact r3, k, hh, a, ⟨?_, ?_, ?_, ?_⟩, ?_⟩
    · rw [g1 3 (by decide)]; exact p1
    · rw [g1 6 (by decide)]; exact p2
    · rw [e2 51 (by omega)]; exact p3
    · rw [g2.1, (e k (by omega)).2.2.2]; exact p4
    · refine (p5.lw hG).cg (fun j _ => ?_) (fun j hj => (e j (by omega)).1) (fun j hj => (e j (by omega)).2.1) (fun j hj => (e j (by omega)).2.2.1) (fun j hj => (e j (by omega)).2.2.2)
      show u.2 410 j = t.2 410 j
      rw [g2.2]
theorem Gn.mv (h : Gn c t m) (g : ∀ b, 11 ≤ b → b ≤ 16 → b ≠ 13 → u.1 300 b = t.1 300 b) (e : ∀ b, b = 42 ∨ b = 43 ∨ b = 67 ∨ b = 68 ∨ b = 69 → v.1 200 b = m.1 200 b) : Gn c u v := by
  unfold Gn
  rw [g 11 (by omega) (by omega) (by omega), g 12 (by omega) (by omega) (by omega), g 14 (by omega) (by omega) (by omega), g 15 (by omega) (by omega) (by omega), g 16 (by omega) (by omega) (by omega), e 42 (by omega), e 43 (by omega), e 67 (by omega), e 68 (by omega), e 69 (by omega)]
  exact h
theorem Gt.mv (h : Gt c t m) (g : ∀ x, (x = 304 ∨ x = 306 ∨ x = 378 ∨ (400 ≤ x ∧ x ≤ 407)) → u.1 x = t.1 x) (g2 : u.1 310 13 = t.1 310 13) (e : v.1 200 89 = m.1 200 89) : Gt c u v := by
  obtain ⟨⟨h1, h2⟩, e9, h3⟩ := h
  refine ⟨⟨h1.c (fun x hx => g x (by omega)), h2.f (by rw [g 304 (by omega)]) (g 378 (by omega))⟩, e9, ?_⟩
  rw [g2, e, g 304 (by omega), g 306 (by omega)]
  exact h3
/-- the book is the same -/
theorem BGr.same (f1 : u.1 363 = t.1 363) (f2 : u.1 302 18 = t.1 302 18) (e1 : v.1 31 = m.1 31) (e2 : v.1 32 = m.1 32) (e3 : v.1 18 = m.1 18) (e4 : v.1 29 = m.1 29) (e5 : ∀ b, b = 14 ∨ b = 15 ∨ b = 16 ∨ b = 33 → v.1 200 b = m.1 200 b) : BGr (XC t m) m (t.1 302 18) (XC u v) v (u.1 302 18) := by
  refine ⟨fun x _ => by show u.1 363 x = t.1 363 x; rw [f1], fun x _ => ⟨by show v.1 31 x = m.1 31 x; rw [e1], by show v.1 32 x = m.1 32 x; rw [e2]⟩, by rw [f2]; exact Int.le_refl _, ⟨by rw [e5 14 (by omega)]; exact Int.le_refl _, fun f _ => by rw [e3]⟩, by rw [e5 15 (by omega)]; exact Int.le_refl _, by rw [e5 16 (by omega)]; exact Int.le_refl _, fun p _ => by rw [e4], by rw [e5 33 (by omega)]; exact Int.le_refl _⟩
end
