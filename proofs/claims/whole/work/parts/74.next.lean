/-! the model's next token -/
def bt9 (B : Nat → Int) (e q : Nat) : Int := if q < e then B q else -1
theorem s_bt {N : Nat} {t : St} {B : Nat → Int} {e q : Nat} (h : mTx t B e) (hq : q ≤ e) : f_X12_byteAt N q t = some (bt9 B e q, t) := by
  rw [s_byteAt (by rw [h.1]; have := h.2.1; omega) (by have := h.2.1; omega)]
  unfold bt9
  by_cases hp : q < e
  · rw [if_pos hp, h.at hp]
  · rw [if_neg hp, show q = e from by omega, h.end]
theorem skp_le {B : Nat → Int} {e : Nat} : ∀ d p : Nat, p ≤ e → p ≤ skp B e d p ∧ skp B e d p ≤ e := by
  intro d
  induction d with
  | zero => intro p h; exact ⟨Nat.le_refl _, h⟩
  | succ d ih =>
    intro p h
    unfold skp
    split
    · split
      · have := ih (p + 1) (by omega); omega
      · split
        · have h1 := rmk_le (B := B) e p h
          have := ih (rmk B e e p) (by omega); omega
        · exact ⟨Nat.le_refl _, h⟩
    · exact ⟨Nat.le_refl _, h⟩
theorem wnd_le {B : Nat → Int} {e : Nat} : ∀ d p : Nat, p ≤ e → p ≤ wnd B e d p ∧ wnd B e d p ≤ e := by
  intro d
  induction d with
  | zero => intro p h; exact ⟨Nat.le_refl _, h⟩
  | succ d ih =>
    intro p h
    unfold wnd
    split
    · have := ih (p + 1) (by omega); omega
    · exact ⟨Nat.le_refl _, h⟩
theorem wnd_wc {B : Nat → Int} {e : Nat} : ∀ d p i : Nat, p ≤ i → i < wnd B e d p → isWc (B i) := by
  intro d
  induction d with
  | zero => intro p i h1 h2; unfold wnd at h2; omega
  | succ d ih =>
    intro p i h1 h2
    unfold wnd at h2
    split at h2
    · next q =>
      by_cases h : i = p
      · rw [h]; exact q.2
      · exact ih (p + 1) i (by omega) h2
    · omega
theorem nvf_le {B : Nat → Int} {e : Nat} : ∀ (d p : Nat) (g v : Int), p ≤ e → 0 ≤ g → p ≤ (nvf B e d p g v).2.2 ∧ (nvf B e d p g v).2.2 ≤ e ∧ (nvf B e d p g v).1 - g = (nvf B e d p g v).2.2 - p := by
  intro d
  induction d with
  | zero => intro p g v h h0; exact ⟨Nat.le_refl _, h, by show g - g = (p : Int) - p; omega⟩
  | succ d ih =>
    intro p g v h h0
    unfold nvf
    split
    · have := ih (p + 1) (g + 1) (if g + 1 < 6 then 10 * v + B p - 48 else v) (by omega) (by omega); omega
    · exact ⟨Nat.le_refl _, h, by show g - g = (p : Int) - p; omega⟩
/-- a token at a place: a number's digits, value and end -/
def tNum (B : Nat → Int) (e q : Nat) : Int × Int × Nat := nvf B e (e - (q + 1)) (q + 1) (if B q = 45 then 0 else 1) (if B q = 45 then 0 else B q - 48)
def tKey (B : Nat → Int) (e q : Nat) : Int := fmw (kmb (fun j => B (q + j)) (wnd B e (e - q) q - q)) 38 0
abbrev isSg (c : Int) : Prop := c = 123 ∨ c = 125 ∨ c = 40 ∨ c = 41 ∨ c = 44 ∨ c = 59 ∨ c = 61 ∨ c = 38
def tEnd (B : Nat → Int) (e q : Nat) : Nat := if q < e then (if isLt (B q) then wnd B e (e - q) q else if isDg (B q) ∨ B q = 45 then (tNum B e q).2.2 else q + 1) else q
def tKnd (B : Nat → Int) (e q : Nat) : Int := if q < e then (if isLt (B q) then (if 24 < wnd B e (e - q) q - q then 5 else if tKey B e q = -1 then 2 else 1) else if isDg (B q) ∨ B q = 45 then (if 1 ≤ (tNum B e q).1 ∧ (tNum B e q).1 ≤ 5 then 3 else 5) else if isSg (B q) then 4 else 5) else 0
def tVal (B : Nat → Int) (e q : Nat) : Int := if isLt (B q) then tKey B e q else if isDg (B q) ∨ B q = 45 then (if B q = 45 then -(tNum B e q).2.1 else (tNum B e q).2.1) else B q
/-- nothing but the token's fields has changed -/
def eqF (t u : St) : Prop := (∀ a b : Nat, (a ≠ 200 ∨ b < 2 ∨ 6 < b) → u.1 a b = t.1 a b) ∧ u.2 = t.2
theorem eqF.rf {t : St} : eqF t t := ⟨fun _ _ _ => rfl, rfl⟩
theorem eqF.up {t u : St} {f : Nat} {v : Int} (h : eqF t u) (h1 : 2 ≤ f) (h2 : f ≤ 6) : eqF t (pI u 200 f v) := by
  refine ⟨fun a b hab => ?_, h.2⟩
  rw [← h.1 a b hab]
  rcases hab with h3 | h3
  · rw [pI_ne h3]
  · rw [pI_nf (by omega)]
def TokM (t : St) (B : Nat → Int) (e q : Nat) : Prop := t.1 200 4 = q ∧ t.1 200 2 = tEnd B e q ∧ t.1 200 3 = tKnd B e q ∧ (q < e → t.1 200 5 = tVal B e q) ∧ (q < e → isLt (B q) → t.1 200 6 = ((wnd B e (e - q) q - q : Nat) : Int))
theorem kmb_congr {a b : Nat → Int} {L w : Nat} (h : ∀ j, j < L → a j = b j) : kmb a L w = kmb b L w := by
  have : ∀ d i : Nat, i + d ≤ L → cmpw (fun j => kwZ (kwS w + j)) a d i = cmpw (fun j => kwZ (kwS w + j)) b d i := by
    intro d
    induction d with
    | zero => intro i _; rfl
    | succ d ih =>
      intro i hi
      unfold cmpw
      rw [h i (by omega), ih (i + 1) (by omega)]
  unfold kmb
  rw [this L 0 (by omega)]
theorem fmw_congr {P Q : Nat → Bool} (h : ∀ w, P w = Q w) : ∀ d w, fmw P d w = fmw Q d w := by
  intro d
  induction d with
  | zero => intro w; rfl
  | succ d ih => intro w; unfold fmw; rw [h w, ih]
theorem fmw_rng {P : Nat → Bool} : ∀ d w : Nat, fmw P d w = -1 ∨ (w ≤ fmw P d w ∧ fmw P d w < w + d) := by
  intro d
  induction d with
  | zero => intro w; exact Or.inl rfl
  | succ d ih =>
    intro w
    unfold fmw
    split
    · right; omega
    · rcases ih (w + 1) with h | h
      · exact Or.inl h
      · right; omega
/-- the model's bytes are bytes -/
def mBy (t : St) : Prop := ∀ i : Nat, i < 4096 → -128 ≤ t.1 0 i ∧ t.1 0 i < 128
theorem nvf_v {B : Nat → Int} {e : Nat} : ∀ (d p : Nat) (g v M : Int), 0 ≤ g → 0 ≤ v → v ≤ M → (g = 0 → M = 0) → (g = 1 → M = 9) → (g = 2 → M = 99) → (g = 3 → M = 999) → (g = 4 → M = 9999) → (5 ≤ g → M = 99999) → 0 ≤ (nvf B e d p g v).2.1 ∧ (nvf B e d p g v).2.1 ≤ 99999 := by
  intro d
  induction d with
  | zero => intro p g v M h0 h1 h2 a0 a1 a2 a3 a4 a5; show 0 ≤ v ∧ v ≤ 99999; omega
  | succ d ih =>
    intro p g v M h0 h1 h2 a0 a1 a2 a3 a4 a5
    unfold nvf
    split
    · next q =>
      have hd := q.2
      by_cases h9 : g + 1 < 6
      · rw [if_pos h9]
        have hg : g = 0 ∨ g = 1 ∨ g = 2 ∨ g = 3 ∨ g = 4 := by omega
        rcases hg with rfl | rfl | rfl | rfl | rfl
        · exact ih (p + 1) _ _ 9 (by omega) (by omega) (by omega) (by intro; omega) (by intro; omega) (by intro; omega) (by intro; omega) (by intro; omega) (by intro; omega)
        · exact ih (p + 1) _ _ 99 (by omega) (by omega) (by omega) (by intro; omega) (by intro; omega) (by intro; omega) (by intro; omega) (by intro; omega) (by intro; omega)
        · exact ih (p + 1) _ _ 999 (by omega) (by omega) (by omega) (by intro; omega) (by intro; omega) (by intro; omega) (by intro; omega) (by intro; omega) (by intro; omega)
        · exact ih (p + 1) _ _ 9999 (by omega) (by omega) (by omega) (by intro; omega) (by intro; omega) (by intro; omega) (by intro; omega) (by intro; omega) (by intro; omega)
        · exact ih (p + 1) _ _ 99999 (by omega) (by omega) (by omega) (by intro; omega) (by intro; omega) (by intro; omega) (by intro; omega) (by intro; omega) (by intro; omega)
      · rw [if_neg h9]
        exact ih (p + 1) (g + 1) v 99999 (by omega) h1 (by omega) (by omega) (by omega) (by omega) (by omega) (by omega) (by intro _; rfl)
    · show 0 ≤ v ∧ v ≤ 99999; omega
theorem s_in {N : Nat} {a b c : Int} {t : St} (h : inR a ∧ inR b ∧ inR c) : f_X12_in N a b c t = some (if b ≤ a ∧ a ≤ c then 1 else 0, t) := by
  unfold f_X12_in
  obtain ⟨h1, h2, h3⟩ := h
  simp (disch := omega) only [cmpI_ok, boI_0, boI_1]
  by_cases q1 : a < b
  · rw [if_pos q1, if_neg (by omega)]
  · rw [if_neg q1]
    by_cases q2 : c < a
    · rw [if_pos q2, if_neg (by omega)]
    · rw [if_neg q2, if_pos (by omega)]
