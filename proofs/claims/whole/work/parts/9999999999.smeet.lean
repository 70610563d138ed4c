/-! searching: states met on both sides -/
section
variable {N o n q0 : Nat}
theorem pl_16 {K : St → Option St} (ho : o < 2) (hn : n ≤ 16) : ∀ (q x : Nat) (t : St), t.1 (305 + o) 8 = n → f_X3_place_L54 o q0 16 K q x t = f_X3_place_L54 o q0 64 K q x t := by
  intro q
  induction q with
  | zero => intro x t _; rfl
  | succ q ih =>
    intro x t h8
    unfold f_X3_place_L54
    simp only [lt1_k]
    rw [h8]
    by_cases hx : (x : Int) < n
    · have e16 : ∀ (F : Option St), ixI (x : Int) 16 F = F := fun F => ixI_ok (by omega)
      have e64 : ∀ (F : Option St), ixI (x : Int) 64 F = F := fun F => ixI_ok (by omega)
      simp only [if_pos hx, e16, e64]
      rw [show (x : Int) + 1 = ((x + 1 : Nat) : Int) by omega, ih (x + 1) _ (by rw [pI_ne (by omega), pL_I, pI_ne (by omega), pI_ne (by omega), pI_ne (by omega)]; exact h8)]
    · rw [if_neg hx, if_neg hx]
theorem place16 {t : St} (ho : o < 2) (hn : n ≤ 16) : f_X3_place N o q0 16 n t = f_X3_place N o q0 64 n t := by
  unfold f_X3_place
  have e : (fun (t9 : St) => cmpI ((16 : Nat) : Int) 64 (cmpI (n : Int) (min ((16 : Nat) : Int) 64) (lt1 (pI t9 (305 + o) 8 (min (n : Int) (min ((16 : Nat) : Int) 64))) fun t10 => bdV (f_J7_fill_d0a16 N (396 + 10 * o) 4 (0 : Int64) t10) fun t11 => f_X3_place_L54 o q0 16 (fun (t25 : St) => bdV (f_X3_sort N o t25) fun t26 => lt1 (t26.1 (305 + o) 9) fun v27 => lt1 (pI t26 (305 + o) 9 (v27 + 1)) fun t28 => some t28) N 0 t11))) = (fun (t9 : St) => cmpI ((64 : Nat) : Int) 64 (cmpI (n : Int) (min ((64 : Nat) : Int) 64) (lt1 (pI t9 (305 + o) 8 (min (n : Int) (min ((64 : Nat) : Int) 64))) fun t10 => bdV (f_J7_fill_d0a16 N (396 + 10 * o) 4 (0 : Int64) t10) fun t11 => f_X3_place_L54 o q0 64 (fun (t25 : St) => bdV (f_X3_sort N o t25) fun t26 => lt1 (t26.1 (305 + o) 9) fun v27 => lt1 (pI t26 (305 + o) 9 (v27 + 1)) fun t28 => some t28) N 0 t11))) := by
    funext t9
    simp only [lt1_k]
    rw [cmpI_ok (by omega), cmpI_ok (by omega), cmpI_ok (by omega), cmpI_ok (by omega), show min (n : Int) (min ((16 : Nat) : Int) 64) = n by omega, show min (n : Int) (min ((64 : Nat) : Int) 64) = n by omega]
    by_cases hN : 5 ≤ N
    · obtain ⟨u, f1, f2, f3, f4⟩ := h_fill64 (N := N) (q0 := 396 + 10 * o) (n0 := 4) (v := 0) (t := pI t9 (305 + o) 8 n) (by decide) (by omega)
      rw [f1, bdV_s, bdV_s]
      exact pl_16 ho hn N 0 u (by rw [f2, pI_at])
    · have hnone : ∀ (q x : Nat) (z : St), x + q < 5 → f_J7_fill_d0a16_L6 (396 + 10 * o) 4 (fun (t7 : St) => some t7) 0 ((4 : Nat) : Int) q x z = none := by
        intro q
        induction q with
        | zero => intro x z _; rfl
        | succ q ih =>
          intro x z hx
          unfold f_J7_fill_d0a16_L6
          simp only [lt1_k]
          rw [cmpI_ok (by omega), if_pos (by omega), ixI_ok (by omega), show (x : Int) + 1 = ((x + 1 : Nat) : Int) by omega]
          exact ih (x + 1) _ (by omega)
      have : f_J7_fill_d0a16 N (396 + 10 * o) 4 (0 : Int64) (pI t9 (305 + o) 8 n) = none := hnone N 0 _ (by omega)
      rw [this]; rfl
  rw [e]
end
section
variable {N n : Nat} {m : St}
/-- where a state's dancers stand -/
def stX (m : St) (s d : Nat) : Int := m.1 92 (16 * s + d) % 256
def stY (m : St) (s d : Nat) : Int := m.1 92 (16 * s + d) / 256 % 256
def stW (m : St) (s d : Nat) : Int := m.1 92 (16 * s + d) / 65536
def stCo (m : St) (s d : Nat) : Int := cdZ (stX m s d) (stY m s d) (stW m s d)
/-- the dancer d of the floor at hand, packed -/
def pkd (m : St) (d : Nat) : Int := m.1 38 d + 256 * m.1 39 d + 65536 * m.1 40 d
def smF (m : St) (n s : Nat) : Prop := ∀ d, d < n → m.1 92 (16 * s + d) = pkd m d
theorem m_packed {d : Nat} (hF : fmF m n) (hd : d < n) : f_X12_packed N d m = some (pkd m d, m) := by
  have h64 := hF.2.1
  have h := hF.2.2.1 d hd
  unfold f_X12_packed pkd
  simp only [lt1_k, Int.toNat_natCast]
  rw [ixI_ok (by omega), ixI_ok (by omega), ixI_ok (by omega)]
  generalize m.1 38 d = x at *
  generalize m.1 39 d = y at *
  generalize m.1 40 d = w at *
  obtain ⟨x, rfl⟩ := Int.eq_ofNat_of_zero_le (show 0 ≤ x by omega)
  obtain ⟨y, rfl⟩ := Int.eq_ofNat_of_zero_le (show 0 ≤ y by omega)
  obtain ⟨w, rfl⟩ := Int.eq_ofNat_of_zero_le (show 0 ≤ w by omega)
  have e1 : iorZ (x : Int) ((y : Int) * 256) = ((256 * y + x : Nat) : Int) := by
    rw [show (y : Int) * 256 = ((256 * y : Nat) : Int) by omega, ior_nat (by omega) (by omega), Nat.or_comm]
    have h1 : 2 ^ 8 * y + x = 2 ^ 8 * y ||| x := Nat.two_pow_add_eq_or_of_lt (by omega) _
    rw [show (2 : Nat) ^ 8 = 256 from rfl] at h1
    rw [← h1]
  have e2 : iorZ ((256 * y + x : Nat) : Int) ((w : Int) * 65536) = ((65536 * w + (256 * y + x) : Nat) : Int) := by
    rw [show (w : Int) * 65536 = ((65536 * w : Nat) : Int) by omega, ior_nat (by omega) (by omega), Nat.or_comm]
    have h1 : 2 ^ 16 * w + (256 * y + x) = 2 ^ 16 * w ||| (256 * y + x) := Nat.two_pow_add_eq_or_of_lt (by omega) _
    rw [show (2 : Nat) ^ 16 = 65536 from rfl] at h1
    rw [← h1]
  rw [e1, e2, show ((65536 * w + (256 * y + x) : Nat) : Int) = (x : Int) + 256 * (y : Int) + 65536 * (w : Int) by omega]
theorem m_showsL {s : Nat} (hn : n ≤ 16) (hs : s < 2000) : ∀ (i x q : Nat) (m : St), x + i = n → i < q → m.1 200 37 = n → (∀ d, d < n → inR (m.1 92 (16 * s + d))) → ∃ v : St, (∀ K : St → Option St, f_X12_showsState_L2 K s q x m = K v) ∧ (∀ a, (a < 38 ∨ 40 < a) → v.1 a = m.1 a) ∧ (∀ d, d < x → v.1 38 d = m.1 38 d ∧ v.1 39 d = m.1 39 d ∧ v.1 40 d = m.1 40 d) ∧ (∀ d, x ≤ d → d < n → v.1 38 d = stX m s d ∧ v.1 39 d = stY m s d ∧ v.1 40 d = stW m s d) ∧ v.2 = m.2 := by
  intro i
  induction i with
  | zero =>
    intro x q m h1 h2 h3 h4
    obtain ⟨q, rfl⟩ : ∃ q', q = q' + 1 := ⟨q - 1, by omega⟩
    refine ⟨m, fun K => ?_, fun _ _ => rfl, fun _ _ => ⟨rfl, rfl, rfl⟩, fun d z1 z2 => by omega, rfl⟩
    conv => lhs; unfold f_X12_showsState_L2
    rw [lt1_k, h3, cmpI_ok (by omega), if_neg (by omega)]
  | succ i ih =>
    intro x q m h1 h2 h3 h4
    obtain ⟨q, rfl⟩ : ∃ q', q = q' + 1 := ⟨q - 1, by omega⟩
    generalize hw : pI (pI (pI m 38 x (stX m s x)) 39 x (stY m s x)) 40 x (stW m s x) = w
    have wo : ∀ a, (a < 38 ∨ 40 < a) → w.1 a = m.1 a := fun a ha => by rw [← hw, pI_ne (by omega), pI_ne (by omega), pI_ne (by omega)]
    have w1 : ∀ d, d ≠ x → w.1 38 d = m.1 38 d ∧ w.1 39 d = m.1 39 d ∧ w.1 40 d = m.1 40 d := fun d hd => by
      rw [← hw]
      exact ⟨by rw [pI_nf hd, pI_nf hd, pI_nf hd], by rw [pI_nf hd, pI_nf hd, pI_nf hd], by rw [pI_nf hd, pI_nf hd, pI_nf hd]⟩
    have w2 : w.1 38 x = stX m s x ∧ w.1 39 x = stY m s x ∧ w.1 40 x = stW m s x := by
      rw [← hw]
      exact ⟨by rw [pI_ne (by decide), pI_ne (by decide), pI_at], by rw [pI_ne (by decide), pI_at], by rw [pI_at]⟩
    have e92 : w.1 92 = m.1 92 := wo 92 (by omega)
    obtain ⟨u, g1, g2, g3, g4, g5⟩ := ih (x + 1) q w (by omega) (by omega) (by rw [wo 200 (by omega)]; exact h3) (fun d hd => by rw [e92]; exact h4 d hd)
    refine ⟨u, fun K => ?_, fun a ha => by rw [g2 a ha, wo a ha], fun d hd => by rw [(g3 d (by omega)).1, (g3 d (by omega)).2.1, (g3 d (by omega)).2.2]; exact w1 d (by omega), fun d z1 z2 => ?_, by rw [g5, ← hw]; rfl⟩
    · rw [← g1 K, ← hw]
      have hr := h4 x (by omega)
      conv => lhs; unfold f_X12_showsState_L2
      simp only [lt1_k]
      rw [h3, cmpI_ok (by omega), if_pos (by omega), ixI_ok (by omega), ixI_ok (by omega), show (16 * (s : Int) + (x : Int)).toNat = 16 * s + x by omega, rnI_ok hr, ixI_ok (by omega), rnI_ok hr, ixI_ok (by omega), Int.toNat_natCast, show (x : Int) + 1 = ((x + 1 : Nat) : Int) by omega]
      rfl
    · by_cases hd : d = x
      · rw [hd, (g3 x (by omega)).1, (g3 x (by omega)).2.1, (g3 x (by omega)).2.2]; exact w2
      · have := g4 d (by omega) z2
        unfold stX stY stW at this ⊢
        rw [e92] at this
        exact this
theorem m_shows {s : Nat} (hn : n ≤ 16) (hs : s < 2000) (h37 : m.1 200 37 = n) (hr : ∀ d, d < n → inR (m.1 92 (16 * s + d))) (hN : 100 ≤ N) : ∃ v : St, f_X12_showsState N s m = some v ∧ (∀ a, (a < 38 ∨ 40 < a) → v.1 a = m.1 a) ∧ (∀ d, d < n → v.1 38 d = stX m s d ∧ v.1 39 d = stY m s d ∧ v.1 40 d = stW m s d) ∧ v.2 = m.2 := by
  obtain ⟨u, g1, g2, g3, g4, g5⟩ := m_showsL (s := s) hn hs n 0 N m (by omega) (by omega) h37 hr
  exact ⟨u, g1 _, g2, fun d hd => g4 d (by omega) hd, g5⟩
theorem m_handL {s : Nat} {K : Int → St → Option (Int × St)} (hn : n ≤ 16) (hs : s < 2000) (hF : fmF m n) (hr : ∀ d, d < n → inR (m.1 92 (16 * s + d))) : ∀ (i x q : Nat), x + i = n → i < q → ∃ r : Int, (r = 0 ∨ r = 1) ∧ (r = 1 ↔ ∀ d, x ≤ d → d < n → m.1 92 (16 * s + d) = pkd m d) ∧ f_X12_stateAtHand_L14 N K s q 1 x m = K r m := by
  intro i
  induction i with
  | zero =>
    intro x q h1 h2
    obtain ⟨q, rfl⟩ : ∃ q', q = q' + 1 := ⟨q - 1, by omega⟩
    refine ⟨1, Or.inr rfl, ⟨fun _ d z1 z2 => by omega, fun _ => rfl⟩, ?_⟩
    unfold f_X12_stateAtHand_L14
    rw [lt1_k, hF.1, cmpI_ok (by omega), if_neg (by omega)]
  | succ i ih =>
    intro x q h1 h2
    obtain ⟨q, rfl⟩ : ∃ q', q = q' + 1 := ⟨q - 1, by omega⟩
    have h := hF.2.2.1 x (by omega)
    have hp : inR (pkd m x) := by unfold pkd; omega
    have hx := hr x (by omega)
    have hu : f_X12_stateAtHand_L14 N K s (q + 1) 1 x m = if m.1 92 (16 * s + x) = pkd m x then f_X12_stateAtHand_L14 N K s q 1 ((x + 1 : Nat) : Int) m else f_X12_stateAtHand_L14 N K s q 0 ((x + 1 : Nat) : Int) m := by
      conv => lhs; unfold f_X12_stateAtHand_L14
      simp only [lt1_k, jn1_k]
      rw [hF.1, cmpI_ok (by omega), if_pos (by omega), cmpI_ok (by omega), if_neg (by decide), ixI_ok (by omega), m_packed hF (by omega), bdI_s, show (16 * (s : Int) + (x : Int)).toNat = 16 * s + x by omega, cmpI_ok ⟨hx, hp⟩, show (x : Int) + 1 = ((x + 1 : Nat) : Int) by omega]
    by_cases he : m.1 92 (16 * s + x) = pkd m x
    · obtain ⟨r, a1, a2, a3⟩ := ih (x + 1) q (by omega) (by omega)
      refine ⟨r, a1, ?_, by rw [hu, if_pos he]; exact a3⟩
      rw [a2]
      constructor
      · intro g d z1 z2
        by_cases hd : d = x
        · rw [hd]; exact he
        · exact g d (by omega) z2
      · intro g d z1 z2; exact g d (by omega) z2
    · refine ⟨0, Or.inl rfl, ⟨fun h => by omega, fun g => absurd (g x (Nat.le_refl x) (by omega)) he⟩, ?_⟩
      rw [hu, if_neg he]
      obtain ⟨q, rfl⟩ : ∃ q', q = q' + 1 := ⟨q - 1, by omega⟩
      unfold f_X12_stateAtHand_L14
      rw [lt1_k, hF.1, cmpI_ok (by omega)]
      split
      · rw [cmpI_ok (by omega), if_pos rfl]
      · rfl
theorem m_handS {S : Nat} {K : St → Option (Int × St)} (hn : n ≤ 16) (hS : S ≤ 2000) (h90 : m.1 200 90 = S) (hF : fmF m n) (hr : ∀ s d, s < S → d < n → inR (m.1 92 (16 * s + d))) (hN : 100 ≤ N) : ∀ (j s q : Nat), s + j = S → j < q → (∃ s', s' < S ∧ smF m n s' ∧ f_X12_stateAtHand_L2 N K q s m = some ((s' : Int), m)) ∨ ((∀ s', s ≤ s' → s' < S → ¬ smF m n s') ∧ f_X12_stateAtHand_L2 N K q s m = K m) := by
  intro j
  induction j with
  | zero =>
    intro s q h1 h2
    obtain ⟨q, rfl⟩ : ∃ q', q = q' + 1 := ⟨q - 1, by omega⟩
    refine Or.inr ⟨fun s' z1 z2 => by omega, ?_⟩
    unfold f_X12_stateAtHand_L2
    rw [lt1_k, h90, cmpI_ok (by omega), if_neg (by omega)]
  | succ j ih =>
    intro s q h1 h2
    obtain ⟨q, rfl⟩ : ∃ q', q = q' + 1 := ⟨q - 1, by omega⟩
    obtain ⟨r, a1, a2, a3⟩ := m_handL (N := N) (s := s) (K := fun (k17 : Int) (t18 : St) => cmpI k17 0 (if k17 = 0 then (f_X12_stateAtHand_L2 N K q ((s : Int) + 1) t18) else (some ((s : Int), t18)))) hn (by omega) hF (fun d hd => hr s d (by omega) hd) n 0 N (by omega) (by omega)
    have hu : f_X12_stateAtHand_L2 N K (q + 1) s m = if r = 0 then f_X12_stateAtHand_L2 N K q ((s + 1 : Nat) : Int) m else some ((s : Int), m) := by
      conv => lhs; unfold f_X12_stateAtHand_L2
      rw [lt1_k, h90, cmpI_ok (by omega), if_pos (by omega)]
      refine a3.trans ?_
      rw [cmpI_ok (by omega), show (s : Int) + 1 = ((s + 1 : Nat) : Int) by omega]
    by_cases h0 : r = 0
    · rw [hu, if_pos h0]
      have hno : ¬ smF m n s := fun g => by
        have := a2.mpr (fun d _ z2 => g d z2)
        omega
      refine (ih (s + 1) q (by omega) (by omega)).imp id (fun ⟨b1, b2⟩ => ⟨fun s' z1 z2 => ?_, b2⟩)
      by_cases hs' : s' = s
      · rw [hs']; exact hno
      · exact b1 s' (by omega) z2
    · refine Or.inl ⟨s, by omega, fun d hd => (a2.mp (by omega)) d (by omega) hd, ?_⟩
      rw [hu, if_neg h0]
theorem m_hand {S : Nat} (hn : n ≤ 16) (hS : S ≤ 2000) (h90 : m.1 200 90 = S) (hF : fmF m n) (hr : ∀ s d, s < S → d < n → inR (m.1 92 (16 * s + d))) (hN : 5000 ≤ N) : (∃ s, s < S ∧ smF m n s ∧ f_X12_stateAtHand N m = some ((s : Int), m)) ∨ ((∀ s, s < S → ¬ smF m n s) ∧ f_X12_stateAtHand N m = some (-1, m)) := by
  have := m_handS (N := N) (K := fun (t19 : St) => some ((-1), t19)) hn hS h90 hF hr (by omega) S 0 N (by omega) (by omega)
  exact this.imp id (fun ⟨b1, b2⟩ => ⟨fun s hs => b1 s (by omega) hs, b2⟩)
theorem atM_i {A B D X Y W : Nat → Int} : ∀ (i d : Nat), atM A B D X Y W i d = true ↔ ∀ e, d ≤ e → e < d + i → X e = A e ∧ Y e = B e ∧ W e = D e := by
  intro i
  induction i with
  | zero => intro d; exact ⟨fun _ e z1 z2 => by omega, fun _ => rfl⟩
  | succ i ih =>
    intro d
    unfold atM
    rw [Bool.and_eq_true, Bool.and_eq_true, Bool.and_eq_true, decide_eq_true_iff, decide_eq_true_iff, decide_eq_true_iff, ih (d + 1)]
    constructor
    · intro ⟨h1, h2⟩ e z1 z2
      by_cases he : e = d
      · rw [he]; exact h1
      · exact h2 e (by omega) (by omega)
    · intro h
      exact ⟨h d (by omega) (by omega), fun e z1 z2 => h e (by omega) (by omega)⟩
/-- a state is the aim -/
def aimR (m : St) (n s : Nat) : Prop := ∀ d, d < n → m.1 92 (16 * s + d) = m.1 47 d + 256 * m.1 48 d + 65536 * m.1 49 d
def AIs (n : Nat) (m : St) (S : Nat) : Prop := (m.1 200 99 = -1 ∧ ∀ s, s < S → ¬ aimR m n s) ∨ ∃ a : Nat, a < S ∧ m.1 200 99 = a ∧ aimR m n a
/-- what meeting a state leaves of the model -/
def MMf (m v : St) (S : Nat) : Prop := (∀ x, x ≠ 92 → x ≠ 93 → x ≠ 200 → v.1 x = m.1 x) ∧ (∀ b, b ≠ 89 → b ≠ 90 → b ≠ 99 → v.1 200 b = m.1 200 b) ∧ v.2 = m.2 ∧ (∀ s, s ≠ S → v.1 93 s = m.1 93 s) ∧ ∀ y, y < 16 * S → v.1 92 y = m.1 92 y
theorem m_meetL {S : Nat} (hn : n ≤ 16) (hS : S < 2000) : ∀ (i x q : Nat) (m : St), x + i = n → i < q → fmF m n → m.1 200 90 = S → ∃ v : St, (∀ K : St → Option (Int × St), f_X12_meets_L24 N K q x m = K v) ∧ (∀ a, a ≠ 92 → v.1 a = m.1 a) ∧ (∀ y, y < 16 * S + x → v.1 92 y = m.1 92 y) ∧ (∀ d, x ≤ d → d < n → v.1 92 (16 * S + d) = pkd m d) ∧ v.2 = m.2 := by
  intro i
  induction i with
  | zero =>
    intro x q m h1 h2 hF h90
    obtain ⟨q, rfl⟩ : ∃ q', q = q' + 1 := ⟨q - 1, by omega⟩
    refine ⟨m, fun K => ?_, fun _ _ => rfl, fun _ _ => rfl, fun d z1 z2 => by omega, rfl⟩
    conv => lhs; unfold f_X12_meets_L24
    rw [lt1_k, hF.1, cmpI_ok (by omega), if_neg (by omega)]
  | succ i ih =>
    intro x q m h1 h2 hF h90
    obtain ⟨q, rfl⟩ : ∃ q', q = q' + 1 := ⟨q - 1, by omega⟩
    have hF2 : fmF (pI m 92 (16 * S + x) (pkd m x)) n := by
      unfold fmF
      rw [pI_ne (by decide), pI_ne (by decide), pI_ne (by decide), pI_ne (by decide)]
      exact hF
    obtain ⟨v, g1, g2, g3, g4, g5⟩ := ih (x + 1) q (pI m 92 (16 * S + x) (pkd m x)) (by omega) (by omega) hF2 (by rw [pI_ne (by decide)]; exact h90)
    refine ⟨v, fun K => ?_, fun a ha => by rw [g2 a ha, pI_ne ha], fun y hy => by rw [g3 y (by omega), pI_nf (by omega)], fun d z1 z2 => ?_, by rw [g5]; rfl⟩
    · rw [← g1 K]
      conv => lhs; unfold f_X12_meets_L24
      simp only [lt1_k]
      rw [hF.1, cmpI_ok (by omega), if_pos (by omega), h90, m_packed hF (by omega), bdI_s, ixI_ok (by omega), show (16 * (S : Int) + (x : Int)).toNat = 16 * S + x by omega, show (x : Int) + 1 = ((x + 1 : Nat) : Int) by omega]
    · by_cases hd : d = x
      · rw [hd, g3 (16 * S + x) (by omega), pI_at]
      · rw [g4 d (by omega) z2]
        unfold pkd
        rw [pI_ne (by decide), pI_ne (by decide), pI_ne (by decide)]
theorem m_meets {S e l : Nat} (hn : n ≤ 16) (hS : S ≤ 2000) (he : e ≤ 10000) (h90 : m.1 200 90 = S) (h89 : m.1 200 89 = e) (hF : fmF m n) (hA : ∀ d, d < n → ok4 (m.1 47 d) ∧ ok4 (m.1 48 d) ∧ 0 ≤ m.1 49 d ∧ m.1 49 d ≤ 3) (hI : AIs n m S) (hN : 100 ≤ N) : ((S = 2000 ∨ e = 10000) ∧ f_X12_meets N l m = some (0, m)) ∨ (S < 2000 ∧ e < 10000 ∧ ∃ v : St, f_X12_meets N l m = some (1, v) ∧ MMf m v S ∧ v.1 200 90 = ((S + 1 : Nat) : Int) ∧ v.1 200 89 = ((e + 1 : Nat) : Int) ∧ v.1 93 S = l ∧ (∀ d, d < n → v.1 92 (16 * S + d) = pkd m d) ∧ AIs n v (S + 1)) := by
  by_cases hfull : S = 2000 ∨ e = 10000
  · refine Or.inl ⟨hfull, ?_⟩
    unfold f_X12_meets
    simp only [lt1_k]
    rw [h90, cmpI_ok (by omega)]
    by_cases h2 : (S : Int) = 2000
    · rw [if_pos h2, boI_0]
    · rw [if_neg h2, h89, cmpI_ok (by omega), if_pos (by omega), boI_0]
  · refine Or.inr ⟨by omega, by omega, ?_⟩
    obtain ⟨w, g1, g2, g3, g4, g5⟩ := m_meetL (N := N) (S := S) hn (by omega) n 0 N m (by omega) (by omega) hF h90
    generalize hz : pI w 93 S (l : Int) = z
    have zo : ∀ x, x ≠ 92 → x ≠ 93 → z.1 x = m.1 x := fun x h1 h2 => by rw [← hz, pI_ne h2, g2 x h1]
    have hFz : fmF z n := by
      unfold fmF
      rw [zo 200 (by decide) (by decide), zo 38 (by decide) (by decide), zo 39 (by decide) (by decide), zo 40 (by decide) (by decide)]
      exact hF
    have e92 : z.1 92 = w.1 92 := by rw [← hz, pI_ne (by decide)]
    have haim := s_isAim (N := N) (m := z) hFz (fun d hd => by rw [zo 47 (by decide) (by decide), zo 48 (by decide) (by decide), zo 49 (by decide) (by decide)]; have := hA d hd; omega) (by omega)
    rw [zo 47 (by decide) (by decide), zo 48 (by decide) (by decide), zo 49 (by decide) (by decide), zo 38 (by decide) (by decide), zo 39 (by decide) (by decide), zo 40 (by decide) (by decide)] at haim
    have hi : atM (m.1 47) (m.1 48) (m.1 49) (m.1 38) (m.1 39) (m.1 40) n 0 = true ↔ ∀ d, d < n → w.1 92 (16 * S + d) = m.1 47 d + 256 * m.1 48 d + 65536 * m.1 49 d := by
      rw [atM_i]
      constructor
      · intro h d hd
        have := h d (by omega) (by omega)
        rw [g4 d (by omega) hd]
        unfold pkd
        rw [this.1, this.2.1, this.2.2]
      · intro h d _ hd
        have h1 := h d (by omega)
        rw [g4 d (by omega) (by omega)] at h1
        unfold pkd at h1
        have h2 := hF.2.2.1 d (by omega)
        have h3 := hA d (by omega)
        omega
    have fin : ∀ (y : St), (∀ x, x ≠ 200 → y.1 x = z.1 x) → (∀ b, b ≠ 99 → y.1 200 b = z.1 200 b) → y.2 = z.2 → (((∃ a : Nat, a < S + 1 ∧ y.1 200 99 = a ∧ aimR z n a)) ∨ (y.1 200 99 = -1 ∧ ∀ s, s < S + 1 → ¬ aimR z n s)) → ∃ v : St, (∀ K : Option (Int × St), True) ∧ v = pI (pI y 200 90 ((S : Int) + 1)) 200 89 ((e : Int) + 1) ∧ MMf m v S ∧ v.1 200 90 = ((S + 1 : Nat) : Int) ∧ v.1 200 89 = ((e + 1 : Nat) : Int) ∧ v.1 93 S = l ∧ (∀ d, d < n → v.1 92 (16 * S + d) = pkd m d) ∧ AIs n v (S + 1) := by
      intro y y1 y2 y3 y4
      have vo : ∀ x, x ≠ 200 → (pI (pI y 200 90 ((S : Int) + 1)) 200 89 ((e : Int) + 1)).1 x = z.1 x := fun x hx => by rw [pI_ne hx, pI_ne hx, y1 x hx]
      refine ⟨_, fun _ => trivial, rfl, ⟨fun x h1 h2 h3 => by rw [vo x h3, zo x h1 h2], fun b h1 h2 h3 => by rw [pI_nf h1, pI_nf h2, y2 b h3, zo 200 (by decide) (by decide)], ?_, fun s hs => ?_, fun q hq => ?_⟩, ?_, ?_, ?_, fun d hd => ?_, ?_⟩
      · show y.2 = m.2
        rw [y3, ← hz]; exact g5
      · rw [vo 93 (by decide), ← hz, pI_nf hs, g2 93 (by decide)]
      · rw [vo 92 (by decide), e92, g3 q (by omega)]
      · rw [pI_nf (by decide), pI_at]; rfl
      · rw [pI_at]; rfl
      · rw [vo 93 (by decide), ← hz, pI_at]
      · rw [vo 92 (by decide), e92, g4 d (by omega) hd]
      · have ea : ∀ s, aimR (pI (pI y 200 90 ((S : Int) + 1)) 200 89 ((e : Int) + 1)) n s = aimR z n s := fun s => by unfold aimR; rw [vo 92 (by decide), vo 47 (by decide), vo 48 (by decide), vo 49 (by decide)]
        unfold AIs
        rw [pI_nf (show (99 : Nat) ≠ 89 by decide), pI_nf (show (99 : Nat) ≠ 90 by decide)]
        rcases y4 with ⟨a, h1, h2, h3⟩ | ⟨h1, h2⟩
        · exact Or.inr ⟨a, h1, h2, by rw [ea]; exact h3⟩
        · exact Or.inl ⟨h1, fun s hs => by rw [ea]; exact h2 s hs⟩
    have eo : ∀ s, s < S → (aimR z n s ↔ aimR m n s) := fun s hs => by
      unfold aimR
      rw [zo 47 (by decide) (by decide), zo 48 (by decide) (by decide), zo 49 (by decide) (by decide), e92]
      constructor
      · intro h d hd; rw [← h d hd, g3 _ (by omega)]
      · intro h d hd; rw [← h d hd, g3 _ (by omega)]
    have eS : aimR z n S ↔ atM (m.1 47) (m.1 48) (m.1 49) (m.1 38) (m.1 39) (m.1 40) n 0 = true := by
      rw [hi]
      unfold aimR
      rw [zo 47 (by decide) (by decide), zo 48 (by decide) (by decide), zo 49 (by decide) (by decide), e92]
    have z90 : z.1 200 90 = S := by rw [zo 200 (by decide) (by decide)]; exact h90
    have z89 : z.1 200 89 = e := by rw [zo 200 (by decide) (by decide)]; exact h89
    have w90 : w.1 200 90 = S := by rw [g2 200 (by decide)]; exact h90
    by_cases ha : atM (m.1 47) (m.1 48) (m.1 49) (m.1 38) (m.1 39) (m.1 40) n 0 = true
    · rw [if_pos ha] at haim
      obtain ⟨v, _, v1, v2⟩ := fin (pI z 200 99 (S : Int)) (fun x hx => pI_ne hx) (fun b hb => pI_nf hb) rfl (Or.inl ⟨S, by omega, pI_at, eS.mpr ha⟩)
      refine ⟨v, ?_, v2⟩
      unfold f_X12_meets
      simp only [lt1_k, jn1_k]
      rw [h90, cmpI_ok (by omega), if_neg (by omega), h89, cmpI_ok (by omega), if_neg (by omega)]
      refine (g1 _).trans ?_
      rw [w90, ixI_ok (by omega), Int.toNat_natCast, hz, haim, bdI_s, cmpI_ok (by omega), if_neg (by decide), z90, pI_nf (show (90 : Nat) ≠ 99 by decide), z90, pI_nf (show (89 : Nat) ≠ 90 by decide), pI_nf (show (89 : Nat) ≠ 99 by decide), z89, ← v1, boI_1]
    · rw [if_neg ha] at haim
      have hy : ((∃ a : Nat, a < S + 1 ∧ z.1 200 99 = a ∧ aimR z n a)) ∨ (z.1 200 99 = -1 ∧ ∀ s, s < S + 1 → ¬ aimR z n s) := by
        rw [zo 200 (by decide) (by decide)]
        rcases hI with ⟨h1, h2⟩ | ⟨a, h1, h2, h3⟩
        · refine Or.inr ⟨h1, fun s hs => ?_⟩
          by_cases hsS : s = S
          · rw [hsS, eS]; exact ha
          · rw [eo s (by omega)]; exact h2 s (by omega)
        · exact Or.inl ⟨a, by omega, h2, (eo a h1).mpr h3⟩
      obtain ⟨v, _, v1, v2⟩ := fin z (fun _ _ => rfl) (fun _ _ => rfl) rfl hy
      refine ⟨v, ?_, v2⟩
      unfold f_X12_meets
      simp only [lt1_k, jn1_k]
      rw [h90, cmpI_ok (by omega), if_neg (by omega), h89, cmpI_ok (by omega), if_neg (by omega)]
      refine (g1 _).trans ?_
      rw [w90, ixI_ok (by omega), Int.toNat_natCast, hz, haim, bdI_s, cmpI_ok (by omega), if_pos rfl, z90, pI_nf (show (89 : Nat) ≠ 90 by decide), z89, ← v1, boI_1]
end
