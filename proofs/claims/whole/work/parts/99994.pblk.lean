/-! statements: code and tokens together -/
/-- code, tokens, ends of blocks -/
abbrev CTE := (Nat → Int) × (Nat → Int) × (Nat → Int)
abbrev CTE.cd (X : CTE) : Nat → Int := X.1
abbrev CTE.tk (X : CTE) : Nat → Int := X.2.1
abbrev CTE.te (X : CTE) : Nat → Int := X.2.2
def CTE.ag (X Y : CTE) (a b c d : Nat) : Prop := (∀ x, a ≤ x → x < b → Y.cd x = X.cd x) ∧ (∀ x, c ≤ x → x < d → Y.tk x = X.tk x) ∧ (∀ x, c ≤ x → x < d → Y.te x = X.te x)
theorem CTE.ag.sub {X Y : CTE} {a b c d a2 b2 c2 d2 : Nat} (h : CTE.ag X Y a b c d) (h1 : a ≤ a2) (h2 : b2 ≤ b) (h3 : c ≤ c2) (h4 : d2 ≤ d) : CTE.ag X Y a2 b2 c2 d2 :=
  ⟨fun x q1 q2 => h.1 x (by omega) (by omega), fun x q1 q2 => h.2.1 x (by omega) (by omega), fun x q1 q2 => h.2.2 x (by omega) (by omega)⟩
/-- a condition (fo: a WHO) and the look in front of it -/
def LKc (fo : Bool) (M : St) (X : CTE) (a b c d : Nat) : Prop := ∃ H : Nat, H ≤ 30 ∧ (if fo = true then WW M H X.cd X.tk (a + 1) b c d else ∃ fl, CW fl M H X.cd X.tk (a + 1) b c d) ∧ X.cd a = (1 + cnL X.tk c (d - c)) * 64 + 23 ∧ (∀ x, c ≤ x → x < d → WTk (X.tk x))
/-- a block's tokens -/
def BKt (X : CTE) (c d : Nat) : Prop := c < d ∧ X.tk c = 5123 ∧ X.tk d = 5125 ∧ X.te c = (d : Int)
/-- a statement; Z: the statements of a block in it -/
def S1 (M : St) (X : CTE) (Z : Nat → Nat → Nat → Nat → Prop) (a b c d : Nat) : Prop :=
  (∃ d1, d = d1 + 1 ∧ STp M X.cd X.tk a b c d1 ∧ LFc X.cd a ∧ WTk (X.tk c) ∧ X.tk d1 = 5059) ∨
  (∃ p : Nat, (p : Int) < M.1 200 16 ∧ b = a + 1 ∧ d = c + 3 ∧ X.cd a = (p : Int) * 64 + 19 ∧ X.tk c = 7 ∧ X.tk (c + 1) = 4000 + (p : Int) ∧ X.tk (c + 2) = 5059) ∨
  (∃ (n : Int) (b1 d1 : Nat), 1 ≤ n ∧ n ≤ 64 ∧ b = b1 + 1 ∧ d = d1 + 1 ∧ X.cd a = n * 64 + 20 ∧ X.cd (a + 1) = (b : Int) * 64 + 21 ∧ Z (a + 2) b1 (c + 3) d1 ∧ X.cd b1 = ((a + 1 : Nat) : Int) * 64 + 26 ∧ X.tk c = 8 ∧ X.tk (c + 1) = 1000 + n ∧ BKt X (c + 2) d1) ∨
  (∃ (n : Int) (b1 d1 b2 d2 : Nat), 1 ≤ n ∧ n ≤ 64 ∧ b = b2 + 1 ∧ d = d2 + 1 ∧ X.cd a = n * 64 + 20 ∧ X.cd (a + 1) = (b : Int) * 64 + 22 ∧ LKc false M X (a + 2) b1 (c + 1) d1 ∧ X.cd b1 = (b : Int) * 64 + 24 ∧ Z (b1 + 1) b2 (d1 + 3) d2 ∧ X.cd b2 = ((a + 1 : Nat) : Int) * 64 + 26 ∧ X.tk c = 9 ∧ X.tk d1 = 10 ∧ X.tk (d1 + 1) = 1000 + n ∧ BKt X (d1 + 2) d2) ∨
  (∃ (b1 d1 d2 : Nat), d = d2 + 1 ∧ LKc false M X a b1 (c + 1) d1 ∧ X.cd b1 = (b : Int) * 64 + 25 ∧ Z (b1 + 1) b (d1 + 1) d2 ∧ X.tk c = 11 ∧ BKt X d1 d2) ∨
  (∃ (b1 d1 b2 d2 d3 : Nat), d = d3 + 1 ∧ LKc false M X a b1 (c + 1) d1 ∧ X.cd b1 = ((b2 + 1 : Nat) : Int) * 64 + 25 ∧ Z (b1 + 1) b2 (d1 + 1) d2 ∧ X.cd b2 = (b : Int) * 64 + 26 ∧ X.tk c = 11 ∧ BKt X d1 d2 ∧ X.tk (d2 + 1) = 12 ∧ Z (b2 + 1) b (d2 + 3) d3 ∧ BKt X (d2 + 2) d3) ∨
  (∃ (b1 d1 b2 d2 : Nat), b = b2 + 1 ∧ d = d2 + 1 ∧ LKc true M X a b1 (c + 1) d1 ∧ X.cd b1 = 27 ∧ Z (b1 + 1) b2 (d1 + 1) d2 ∧ X.cd b2 = 28 ∧ X.tk c = 13 ∧ BKt X d1 d2)
/-- statements one after another -/
def SB (M : St) (X : CTE) : Nat → Nat → Nat → Nat → Nat → Prop
  | 0, a, b, c, d => a = b ∧ c = d
  | n + 1, a, b, c, d => (a = b ∧ c = d) ∨ ∃ b1 d1 : Nat, SB M X n b1 b d1 d ∧ S1 M X (SB M X n) a b1 c d1
theorem SB_s {M : St} {X : CTE} {n a b c d : Nat} : SB M X (n + 1) a b c d = ((a = b ∧ c = d) ∨ ∃ b1 d1 : Nat, SB M X n b1 b d1 d ∧ S1 M X (SB M X n) a b1 c d1) := rfl
theorem S1.mono {M : St} {X : CTE} {Z W : Nat → Nat → Nat → Nat → Prop} {a b c d : Nat} (h : S1 M X Z a b c d) (g : ∀ a b c d, Z a b c d → W a b c d) : S1 M X W a b c d := by
  rcases h with h | h | ⟨n, b1, d1, h1, h2, h3, h4, h5, h6, h7, h8⟩ | ⟨n, b1, d1, b2, d2, h1, h2, h3, h4, h5, h6, h7, h8, h9, h10⟩ | ⟨b1, d1, d2, h1, h2, h3, h4, h5⟩ | ⟨b1, d1, b2, d2, d3, h1, h2, h3, h4, h5, h6, h7, h8, h9, h10⟩ | ⟨b1, d1, b2, d2, h1, h2, h3, h4, h5, h6⟩
  · exact Or.inl h
  · exact Or.inr (Or.inl h)
  · exact Or.inr (Or.inr (Or.inl ⟨n, b1, d1, h1, h2, h3, h4, h5, h6, g _ _ _ _ h7, h8⟩))
  · exact Or.inr (Or.inr (Or.inr (Or.inl ⟨n, b1, d1, b2, d2, h1, h2, h3, h4, h5, h6, h7, h8, g _ _ _ _ h9, h10⟩)))
  · exact Or.inr (Or.inr (Or.inr (Or.inr (Or.inl ⟨b1, d1, d2, h1, h2, h3, g _ _ _ _ h4, h5⟩))))
  · exact Or.inr (Or.inr (Or.inr (Or.inr (Or.inr (Or.inl ⟨b1, d1, b2, d2, d3, h1, h2, h3, g _ _ _ _ h4, h5, h6, h7, h8, g _ _ _ _ h9, h10⟩)))))
  · exact Or.inr (Or.inr (Or.inr (Or.inr (Or.inr (Or.inr ⟨b1, d1, b2, d2, h1, h2, h3, h4, g _ _ _ _ h5, h6⟩)))))
theorem SB.up {M : St} {X : CTE} : ∀ n a b c d, SB M X n a b c d → SB M X (n + 1) a b c d := by
  intro n
  induction n with
  | zero => intro a b c d h; exact Or.inl h
  | succ n ih =>
    intro a b c d h
    rcases h with h | ⟨b1, d1, h1, h2⟩
    · exact Or.inl h
    · exact Or.inr ⟨b1, d1, ih _ _ _ _ h1, h2.mono (fun a b c d q => ih a b c d q)⟩
theorem SB.mono {M : St} {X : CTE} {n k a b c d : Nat} (h : SB M X n a b c d) (hk : n ≤ k) : SB M X k a b c d := by
  obtain ⟨j, rfl⟩ : ∃ j, k = n + j := ⟨k - n, by omega⟩
  clear hk
  induction j with
  | zero => exact h
  | succ j ih => exact SB.up _ _ _ _ _ ih
theorem LKc.lt {fo : Bool} {M : St} {X : CTE} {a b c d : Nat} (h : LKc fo M X a b c d) : a + 1 < b ∧ c < d := by
  obtain ⟨H, h1, h2, h3⟩ := h
  cases fo with
  | true => rw [if_pos rfl] at h2; exact ⟨h2.1, h2.2.1⟩
  | false =>
    rw [if_neg (by decide)] at h2
    obtain ⟨fl, h2⟩ := h2
    exact ⟨h2.1, h2.2.1⟩
theorem S1.le {M : St} {X : CTE} {Z : Nat → Nat → Nat → Nat → Prop} {a b c d : Nat} (h : S1 M X Z a b c d) (hZ : ∀ a b c d, Z a b c d → a ≤ b ∧ c ≤ d) : a < b ∧ c < d := by
  rcases h with ⟨d1, h1, ⟨H, p, q1, q2, e, q3, q4, q5⟩, h3, h4⟩ | ⟨p, h1, h2, h3, h4⟩ | ⟨n, b1, d1, h1, h2, h3, h4, h5, h6, h7, h8⟩ | ⟨n, b1, d1, b2, d2, h1, h2, h3, h4, h5, h6, h7, h8, h9, h10⟩ | ⟨b1, d1, d2, h1, h2, h3, h4, h5⟩ | ⟨b1, d1, b2, d2, d3, h1, h2, h3, h4, h5, h6, h7, h8, h9, h10⟩ | ⟨b1, d1, b2, d2, h1, h2, h3, h4, h5, h6⟩
  · have := STq.lt q4; omega
  · omega
  · have := hZ _ _ _ _ h7; omega
  · have := hZ _ _ _ _ h9; have := h7.lt; omega
  · have := hZ _ _ _ _ h4; have := h2.lt; omega
  · have := hZ _ _ _ _ h4; have := hZ _ _ _ _ h9; have := h2.lt; omega
  · have := hZ _ _ _ _ h5; have := h3.lt; omega
theorem SB.le {M : St} {X : CTE} : ∀ n a b c d, SB M X n a b c d → a ≤ b ∧ c ≤ d := by
  intro n
  induction n with
  | zero => intro a b c d h; exact ⟨Nat.le_of_eq h.1, Nat.le_of_eq h.2⟩
  | succ n ih =>
    intro a b c d h
    rcases h with h | ⟨b1, d1, h1, h2⟩
    · exact ⟨Nat.le_of_eq h.1, Nat.le_of_eq h.2⟩
    · have := ih _ _ _ _ h1
      have := h2.le ih
      omega
theorem LFc.cg {cd cd2 : Nat → Int} {a : Nat} (h : LFc cd a) (g : cd2 a = cd a) : LFc cd2 a := by
  obtain ⟨kd, vl, q1, q2, q3, q4, q5⟩ := h
  exact ⟨kd, vl, q1, q2, q3, q4, by rw [g]; exact q5⟩
theorem LKc.cg {fo : Bool} {M : St} {X Y : CTE} {a b c d : Nat} (h : LKc fo M X a b c d) (g : CTE.ag X Y a b c d) : LKc fo M Y a b c d := by
  have hl := h.lt
  obtain ⟨H, h1, h2, h3, h4⟩ := h
  refine ⟨H, h1, ?_, ?_, fun x q1 q2 => by rw [g.2.1 x q1 q2]; exact h4 x q1 q2⟩
  · cases fo with
    | true =>
      rw [if_pos rfl] at h2 ⊢
      exact WW_c _ _ _ _ _ _ _ _ h2 (fun x q1 q2 => g.1 x (by omega) q2) g.2.1
    | false =>
      rw [if_neg (by decide)] at h2 ⊢
      obtain ⟨fl, h2⟩ := h2
      exact ⟨fl, CW_c _ _ _ _ _ _ _ _ h2 (fun x q1 q2 => g.1 x (by omega) q2) g.2.1⟩
  · rw [g.1 a (Nat.le_refl a) (by omega), h3, cnL_cong (tk := Y.tk) (tk2 := X.tk) (c := c) (d - c) (fun x q1 q2 => g.2.1 x q1 (by omega))]
theorem STp.cg {M : St} {cd tk cd2 tk2 : Nat → Int} {a b c d : Nat} (h : STp M cd tk a b c d) (g1 : ∀ x, a ≤ x → x < b → cd2 x = cd x) (g2 : ∀ x, c ≤ x → x < d → tk2 x = tk x) : STp M cd2 tk2 a b c d := by
  obtain ⟨H, p, h1, h2, e, h3, h4, h5⟩ := h
  have := STq.lt h4
  exact ⟨H, p, h1, h2, e, h3, STq.cg h4 (fun x q1 q2 => g1 x q1 (by omega)) g2, by rw [g1 e (by omega) (by omega)]; exact h5⟩
theorem BKt.cg {X Y : CTE} {a b c d : Nat} (h : BKt X c d) (g : CTE.ag X Y a b c (d + 1)) : BKt Y c d :=
  ⟨h.1, by rw [g.2.1 c (Nat.le_refl c) (by have := h.1; omega)]; exact h.2.1, by rw [g.2.1 d (by have := h.1; omega) (by omega)]; exact h.2.2.1, by rw [g.2.2 c (Nat.le_refl c) (by have := h.1; omega)]; exact h.2.2.2⟩
theorem S1.cg {M : St} {X Y : CTE} {Z W : Nat → Nat → Nat → Nat → Prop} {a b c d : Nat} (h : S1 M X Z a b c d) (g : CTE.ag X Y a b c d) (hZ : ∀ a b c d, Z a b c d → a ≤ b ∧ c ≤ d) (hW : ∀ a2 b2 c2 d2, a ≤ a2 → b2 ≤ b → c ≤ c2 → d2 ≤ d → Z a2 b2 c2 d2 → W a2 b2 c2 d2) : S1 M Y W a b c d := by
  rcases h with ⟨d1, h1, h2, h3, h4, h5⟩ | ⟨p, h1, h2, h3, h4, h5, h6, h7⟩ | ⟨n, b1, d1, h1, h2, h3, h4, h5, h6, h7, h8, h9, h10, h11⟩ | ⟨n, b1, d1, b2, d2, h1, h2, h3, h4, h5, h6, h7, h8, h9, h10, h11, h12, h13, h14⟩ | ⟨b1, d1, d2, h1, h2, h3, h4, h5, h6⟩ | ⟨b1, d1, b2, d2, d3, h1, h2, h3, h4, h5, h6, h7, h8, h9, h10⟩ | ⟨b1, d1, b2, d2, h1, h2, h3, h4, h5, h6, h7, h8⟩
  · have hl : a < b ∧ c < d1 := by
      obtain ⟨H, p, q1, q2, e, q3, q4, q5⟩ := h2
      have := STq.lt q4; omega
    exact Or.inl ⟨d1, h1, h2.cg g.1 (fun x q1 q2 => g.2.1 x q1 (by omega)), h3.cg (g.1 a (Nat.le_refl a) (by omega)), by rw [g.2.1 c (Nat.le_refl c) (by omega)]; exact h4, by rw [g.2.1 d1 (by omega) (by omega)]; exact h5⟩
  · exact Or.inr (Or.inl ⟨p, h1, h2, h3, by rw [g.1 a (Nat.le_refl a) (by omega)]; exact h4, by rw [g.2.1 c (Nat.le_refl c) (by omega)]; exact h5, by rw [g.2.1 (c + 1) (by omega) (by omega)]; exact h6, by rw [g.2.1 (c + 2) (by omega) (by omega)]; exact h7⟩)
  · have l1 := hZ _ _ _ _ h7
    exact Or.inr (Or.inr (Or.inl ⟨n, b1, d1, h1, h2, h3, h4, by rw [g.1 a (Nat.le_refl a) (by omega)]; exact h5, by rw [g.1 (a + 1) (by omega) (by omega)]; exact h6, hW _ _ _ _ (by omega) (by omega) (by omega) (by omega) h7, by rw [g.1 b1 (by omega) (by omega)]; exact h8, by rw [g.2.1 c (Nat.le_refl c) (by omega)]; exact h9, by rw [g.2.1 (c + 1) (by omega) (by omega)]; exact h10, h11.cg (g.sub (Nat.le_refl a) (Nat.le_refl b) (by omega) (by omega))⟩))
  · have l1 := hZ _ _ _ _ h9
    have l2 := h7.lt
    exact Or.inr (Or.inr (Or.inr (Or.inl ⟨n, b1, d1, b2, d2, h1, h2, h3, h4, by rw [g.1 a (Nat.le_refl a) (by omega)]; exact h5, by rw [g.1 (a + 1) (by omega) (by omega)]; exact h6, h7.cg (g.sub (by omega) (by omega) (by omega) (by omega)), by rw [g.1 b1 (by omega) (by omega)]; exact h8, hW _ _ _ _ (by omega) (by omega) (by omega) (by omega) h9, by rw [g.1 b2 (by omega) (by omega)]; exact h10, by rw [g.2.1 c (Nat.le_refl c) (by omega)]; exact h11, by rw [g.2.1 d1 (by omega) (by omega)]; exact h12, by rw [g.2.1 (d1 + 1) (by omega) (by omega)]; exact h13, h14.cg (g.sub (Nat.le_refl a) (Nat.le_refl b) (by omega) (by omega))⟩)))
  · have l1 := hZ _ _ _ _ h4
    have l2 := h2.lt
    exact Or.inr (Or.inr (Or.inr (Or.inr (Or.inl ⟨b1, d1, d2, h1, h2.cg (g.sub (by omega) (by omega) (by omega) (by omega)), by rw [g.1 b1 (by omega) (by omega)]; exact h3, hW _ _ _ _ (by omega) (by omega) (by omega) (by omega) h4, by rw [g.2.1 c (Nat.le_refl c) (by omega)]; exact h5, h6.cg (g.sub (Nat.le_refl a) (Nat.le_refl b) (by omega) (by omega))⟩))))
  · have l1 := hZ _ _ _ _ h4
    have l2 := h2.lt
    have l3 := hZ _ _ _ _ h9
    exact Or.inr (Or.inr (Or.inr (Or.inr (Or.inr (Or.inl ⟨b1, d1, b2, d2, d3, h1, h2.cg (g.sub (by omega) (by omega) (by omega) (by omega)), by rw [g.1 b1 (by omega) (by omega)]; exact h3, hW _ _ _ _ (by omega) (by omega) (by omega) (by omega) h4, by rw [g.1 b2 (by omega) (by omega)]; exact h5, by rw [g.2.1 c (Nat.le_refl c) (by omega)]; exact h6, h7.cg (g.sub (Nat.le_refl a) (Nat.le_refl b) (by omega) (by omega)), by rw [g.2.1 (d2 + 1) (by omega) (by omega)]; exact h8, hW _ _ _ _ (by omega) (by omega) (by omega) (by omega) h9, h10.cg (g.sub (Nat.le_refl a) (Nat.le_refl b) (by omega) (by omega))⟩)))))
  · have l1 := hZ _ _ _ _ h5
    have l2 := h3.lt
    exact Or.inr (Or.inr (Or.inr (Or.inr (Or.inr (Or.inr ⟨b1, d1, b2, d2, h1, h2, h3.cg (g.sub (by omega) (by omega) (by omega) (by omega)), by rw [g.1 b1 (by omega) (by omega)]; exact h4, hW _ _ _ _ (by omega) (by omega) (by omega) (by omega) h5, by rw [g.1 b2 (by omega) (by omega)]; exact h6, by rw [g.2.1 c (Nat.le_refl c) (by omega)]; exact h7, h8.cg (g.sub (Nat.le_refl a) (Nat.le_refl b) (by omega) (by omega))⟩)))))
theorem SB.cg {M : St} {X Y : CTE} : ∀ n a b c d, SB M X n a b c d → CTE.ag X Y a b c d → SB M Y n a b c d := by
  intro n
  induction n with
  | zero => intro a b c d h _; exact h
  | succ n ih =>
    intro a b c d h g
    rcases h with h | ⟨b1, d1, h1, h2⟩
    · exact Or.inl h
    · have l1 := SB.le _ _ _ _ _ h1
      have l2 := h2.le (SB.le n)
      exact Or.inr ⟨b1, d1, ih _ _ _ _ h1 (g.sub (by omega) (by omega) (by omega) (by omega)), h2.cg (g.sub (Nat.le_refl a) (by omega) (Nat.le_refl c) (by omega)) (SB.le n) (fun a2 b2 c2 d2 q1 q2 q3 q4 q => ih _ _ _ _ q (g.sub (by omega) (by omega) (by omega) (by omega)))⟩
/-- no statement begins with else -/
theorem S1.fst {M : St} {X : CTE} {Z : Nat → Nat → Nat → Nat → Prop} {a b c d : Nat} (h : S1 M X Z a b c d) : X.tk c ≠ 12 ∧ X.tk c ≠ 5125 ∧ 0 ≤ X.tk c ∧ X.tk c ≤ 6000 := by
  rcases h with ⟨d1, h1, h2, h3, h4, h5⟩ | ⟨p, h1, h2, h3, h4, h5, h6, h7⟩ | ⟨n, b1, d1, h1, h2, h3, h4, h5, h6, h7, h8, h9, h10, h11⟩ | ⟨n, b1, d1, b2, d2, h1, h2, h3, h4, h5, h6, h7, h8, h9, h10, h11, h12, h13, h14⟩ | ⟨b1, d1, d2, h1, h2, h3, h4, h5, h6⟩ | ⟨b1, d1, b2, d2, d3, h1, h2, h3, h4, h5, h6, h7, h8, h9, h10⟩ | ⟨b1, d1, b2, d2, h1, h2, h3, h4, h5, h6, h7, h8⟩
  · unfold WTk at h4; omega
  · omega
  · omega
  · omega
  · omega
  · omega
  · omega
