/-! whom a text means: code and tokens together -/
/-- the book has only grown -/
def bkG (M m : St) : Prop := M.1 200 14 ≤ m.1 200 14 ∧ ∀ f : Nat, (f : Int) < M.1 200 14 → m.1 18 f = M.1 18 f
theorem bkG.tr {A B C : St} (h : bkG A B) (g : bkG B C) : bkG A C :=
  ⟨Int.le_trans h.1 g.1, fun f hf => (g.2 f (Int.lt_of_lt_of_le hf h.1)).trans (h.2 f hf)⟩
theorem bkG.rf {A : St} : bkG A A := ⟨Int.le_refl _, fun _ _ => rfl⟩
def CXr (M : St) (N o n : Nat) (t m : St) (s : Int64) : Prop := 20000 ≤ N ∧ EVr o t m n ∧ (∀ e, e < 64 → bq s e = true → e < n) ∧ t.1 302 18 ≤ 10098 ∧ bkG M m
theorem CXr.fr {M : St} {N o n : Nat} {t m u v : St} {s : Int64} (h : CXr M N o n t m s) (g : hfr t u) (gC : CIk u) (g2 : mf4 m v) : CXr M N o n u v s := by
  obtain ⟨h1, h2, h3, h4, h5⟩ := h
  refine ⟨h1, h2.fr g gC g2, h3, by rw [g.1 302 (by decide) (by decide) (by decide) (by decide) (by decide)]; exact h4, ?_⟩
  refine ⟨by rw [g2.2.1 14 (by decide) (by decide) (by decide) (by decide) (by decide) (by decide)]; exact h5.1, fun f hf => ?_⟩
  rw [g2.1 18 (by decide) (by decide) (by decide) (by decide) (by decide)]
  exact h5.2 f hf
def agC (t : St) (cd : Nat → Int) (a b : Nat) : Prop := (∀ x, a ≤ x → x < b → t.1 363 x = cd x) ∧ (b : Int) ≤ t.1 302 18
def agT (m : St) (tk : Nat → Int) (c d : Nat) : Prop := (∀ x, c ≤ x → x < d → m.1 31 x = tk x) ∧ d < 10100
theorem agC.fr {t u : St} {cd : Nat → Int} {a b : Nat} (h : agC t cd a b) (g : hfr t u) : agC u cd a b := by
  unfold agC
  rw [g.1 363 (by decide) (by decide) (by decide) (by decide) (by decide), g.1 302 (by decide) (by decide) (by decide) (by decide) (by decide)]
  exact h
theorem agT.fr {m u : St} {tk : Nat → Int} {c d : Nat} (h : agT m tk c d) (g : mf4 m u) : agT u tk c d := by
  unfold agT
  rw [g.1 31 (by decide) (by decide) (by decide) (by decide) (by decide)]
  exact h
theorem agC.sub {t : St} {cd : Nat → Int} {a b a2 b2 : Nat} (h : agC t cd a b) (h1 : a ≤ a2) (h2 : b2 ≤ b) : agC t cd a2 b2 := ⟨fun x q1 q2 => h.1 x (by omega) (by omega), by have := h.2; omega⟩
theorem agT.sub {m : St} {tk : Nat → Int} {c d c2 d2 : Nat} (h : agT m tk c d) (h1 : c ≤ c2) (h2 : d2 ≤ d) : agT m tk c2 d2 := ⟨fun x q1 q2 => h.1 x (by omega) (by omega), by have := h.2; omega⟩
/-- the hall comes from a to b and has a value more -/
def HVl (N o : Nat) (t : St) (s : Int64) (top : Int) (a b : Nat) (v : Int64) (u : St) : Prop :=
  (∀ (K : Int → St → Option (Int × St)) (q : Nat), f_X1_evaluate_L6 N o K s (q + (b - a)) top a t = f_X1_evaluate_L6 N o K s q (top + 1) b u) ∧ hfr t u ∧ CIk u ∧ u.2 370 (top + 1).toNat = v ∧ ∀ j : Nat, (j : Int) ≤ top → u.2 370 j = t.2 370 j
def WO (M : St) (H : Nat) (cd tk : Nat → Int) (a b c d : Nat) : Prop := a < b ∧ c < d ∧ ∀ (N o n D : Nat) (t m : St) (s : Int64) (top : Int), CXr M N o n t m s → agC t cd a b → agT m tk c d → m.1 200 114 = c → 3 * H + 1 ≤ D → -1 ≤ top → top + 2 * H + 1 ≤ 95 →
  ∃ (v : Int64) (u w : St), HVl N o t s top a b v u ∧ (rec_readWho N D).2.2 s m = some (v, w) ∧ mf4 m w ∧ w.1 200 114 = d ∧ ∀ e, e < 64 → bq v e = true → e < n
def WA (M : St) (H : Nat) (cd tk : Nat → Int) (a b c d : Nat) : Prop := a < b ∧ c < d ∧ ∀ (N o n D : Nat) (t m : St) (s : Int64) (top : Int), CXr M N o n t m s → agC t cd a b → agT m tk c d → m.1 200 114 = c → 3 * H + 2 ≤ D → -1 ≤ top → top + 2 * H + 2 ≤ 95 →
  ∃ (v : Int64) (u w : St) (j : Nat), j < d - c ∧ HVl N o t s top a b v u ∧ (rec_readWho N D).2.1 s m = o_X12_readAnd_L6 (rec_readWho N (D - 1)).2.2 (fun (k13 : Int64) (t14 : St) => some (k13, t14)) s (N - j) v w ∧ mf4 m w ∧ w.1 200 114 = d ∧ ∀ e, e < 64 → bq v e = true → e < n
def WW (M : St) (H : Nat) (cd tk : Nat → Int) (a b c d : Nat) : Prop := a < b ∧ c < d ∧ ∀ (N o n D : Nat) (t m : St) (s : Int64) (top : Int), CXr M N o n t m s → agC t cd a b → agT m tk c d → m.1 200 114 = c → inR (m.1 31 d) → m.1 31 d ≠ 25 → 3 * H + 3 ≤ D → -1 ≤ top → top + 2 * H + 3 ≤ 95 →
  ∃ (v : Int64) (u w : St) (j : Nat), j < d - c ∧ HVl N o t s top a b v u ∧ (rec_readWho N D).1 s m = o_X12_readWho_L6 (rec_readWho N (D - 1)).2.1 (fun (k13 : Int64) (t14 : St) => some (k13, t14)) s (N - j) v w ∧ mf4 m w ∧ w.1 200 114 = d ∧ ∀ e, e < 64 → bq v e = true → e < n
theorem HVl.one {N o : Nat} {t : St} {s : Int64} {top : Int} {a : Nat} {v : Int64} {u : St} (h1 : ∀ (K : Int → St → Option (Int × St)) (q : Nat), f_X1_evaluate_L6 N o K s (q + 1) top a t = f_X1_evaluate_L6 N o K s q (top + 1) ((a + 1 : Nat) : Int) (pL u 370 (top + 1).toNat v)) (h2 : hfr t u) (h3 : CIk u) (h4 : u.2 370 = t.2 370) (h5 : -1 ≤ top) : HVl N o t s top a (a + 1) v (pL u 370 (top + 1).toNat v) := by
  refine ⟨fun K q => ?_, h2.tr (hfr.L (by omega)), ?_, pL_at, fun j hj => ?_⟩
  · rw [show q + (a + 1 - a) = q + 1 by omega]; exact h1 K q
  · exact h3
  · rw [pL_nf (by omega), h4]
theorem CIk.L {t : St} {i : Nat} {v : Int64} (h : CIk t) : CIk (pL t 370 i v) := h
theorem EVr.n64 {o n : Nat} {t m : St} (h : EVr o t m n) : n ≤ 64 := h.2.1.1.2.1
section
variable {M : St} {H : Nat} {cd tk : Nat → Int} {a c : Nat}
theorem wo_all (h1 : cd a = 0) (h2 : tk c = 14) : WO M H cd tk a (a + 1) c (c + 1) := by
  refine ⟨by omega, by omega, fun N o n D t m s top hX hC hT hr hD ht ht2 => ?_⟩
  obtain ⟨D, rfl⟩ : ∃ k, D = k + 1 := ⟨D - 1, by omega⟩
  have hca := hC.1 a (by omega) (by omega)
  have htc := hT.1 c (by omega) (by omega)
  rw [h1] at hca; rw [h2] at htc
  have hl := hC.2
  have hd := hT.2
  refine ⟨s, pL t 370 (top + 1).toNat s, _, HVl.one (fun K q => ?_) hfr.rf hX.2.1.2.2.2.2.2.1 rfl ht, rd_all hr (by omega) htc, mf4.rd, pI_at, hX.2.2.1⟩
  have := ev_plain (N := N) (o := o) (K := K) (s := s) (q := q) (x := a) (top := top) (t := t) (vl := 0) (kd := 0) (p := -1) (by omega) (by omega) (by omega) hX.2.2.2.1 hca (by omega) (by unfold f_X1_plainly; rw [rnI_ok (by omega)]; rfl)
  rw [show s &&& (-1 : Int64) = s from bq_ext (fun e he => by rw [bq_and, bq_m1 e he, Bool.and_true])] at this
  exact this
theorem rs_sub {P : Nat → Bool} {s : Int64} {n e : Nat} (hn : n ≤ 64) (he : e < 64) (h : bq (rs9 P s n) e = true) : e < n := by
  rw [bq_rs n e hn he, Bool.and_eq_true, decide_eq_true_iff] at h
  exact h.1
theorem rs_and {P : Nat → Bool} {s p : Int64} {n : Nat} (hn : n ≤ 64) (hs : ∀ e, e < 64 → bq s e = true → e < n) (hp : ∀ e, e < n → bq p e = P e) : s &&& p = rs9 P s n := by
  apply bq_ext
  intro e he
  rw [bq_and, bq_rs n e hn he]
  cases hb : bq s e with
  | false => simp
  | true =>
    have := hs e he hb
    rw [hp e this, decide_eq_true this]
    simp
theorem wo_pl {kd : Int} (hk : 1 ≤ kd ∧ kd ≤ 4) (h1 : cd a = kd) (h2 : tk c = 14 + kd) : WO M H cd tk a (a + 1) c (c + 1) := by
  refine ⟨by omega, by omega, fun N o n D t m s top hX hC hT hr hD ht ht2 => ?_⟩
  obtain ⟨D, rfl⟩ : ∃ k, D = k + 1 := ⟨D - 1, by omega⟩
  have hca := hC.1 a (by omega) (by omega)
  have htc := hT.1 c (by omega) (by omega)
  rw [h1] at hca; rw [h2] at htc
  have hl := hC.2
  have hd := hT.2
  have hE := hX.2.1
  have h64 := hE.n64
  have hNN := hX.1
  have key : ∃ p : Int64, f_X1_plainly N o kd 0 t = some (p, t) ∧ s &&& p = rs9 (isK (14 + kd) (-1) (m.1 40)) s n := by
    unfold f_X1_plainly
    rw [rnI_ok (by omega)]
    have : kd = 1 ∨ kd = 2 ∨ kd = 3 ∨ kd = 4 := by omega
    rcases this with rfl | rfl | rfl | rfl
    · exact ⟨_, rfl, rs_and h64 hX.2.2.1 (fun e he => bq_larks e (by omega))⟩
    · exact ⟨_, rfl, rs_and h64 hX.2.2.1 (fun e he => bq_robins e (by omega))⟩
    · exact ⟨_, rfl, rs_and h64 hX.2.2.1 (fun e he => bq_heads e (by omega))⟩
    · exact ⟨_, rfl, rs_and h64 hX.2.2.1 (fun e he => bq_sides e (by omega))⟩
  obtain ⟨p, hp1, hp2⟩ := key
  refine ⟨rs9 (isK (14 + kd) (-1) (m.1 40)) s n, pL t 370 (top + 1).toNat _, _, HVl.one (fun K q => ?_) hfr.rf hE.2.2.2.2.2.1 rfl ht, rd_pl hE.2.1.1 hr (by omega) (by omega) htc (by omega), mf4.rd, pI_at, fun e he h => rs_sub h64 he h⟩
  have := ev_plain (N := N) (o := o) (K := K) (s := s) (q := q) (x := a) (top := top) (t := t) (vl := 0) (kd := kd) (p := p) (by omega) (by omega) (by omega) hX.2.2.2.1 (by rw [hca]; omega) (by omega) hp1
  rw [hp2] at this
  exact this
theorem wo_nu {kd v : Int} (hk : kd = 5 ∨ kd = 6) (hv : 0 ≤ v ∧ v < 64) (hv2 : kd = 5 → v < 32) (h1 : cd a = v * 64 + kd) (h2 : tk c = 14 + kd) (h3 : tk (c + 1) = 1000 + v) : WO M H cd tk a (a + 1) c (c + 2) := by
  refine ⟨by omega, by omega, fun N o n D t m s top hX hC hT hr hD ht ht2 => ?_⟩
  obtain ⟨D, rfl⟩ : ∃ k, D = k + 1 := ⟨D - 1, by omega⟩
  have hca := hC.1 a (by omega) (by omega)
  have htc := hT.1 c (by omega) (by omega)
  have htc1 := hT.1 (c + 1) (by omega) (by omega)
  rw [h1] at hca; rw [h2] at htc; rw [h3] at htc1
  have hl := hC.2
  have hd := hT.2
  have hE := hX.2.1
  have h64 := hE.n64
  have hNN := hX.1
  obtain ⟨x, rfl⟩ := Int.eq_ofNat_of_zero_le hv.1
  have key : ∃ p : Int64, f_X1_plainly N o kd x t = some (p, t) ∧ s &&& p = rs9 (isK (14 + kd) x (m.1 40)) s n := by
    unfold f_X1_plainly
    rw [rnI_ok (by omega)]
    rcases hk with rfl | rfl
    · refine ⟨_, rfl, rs_and h64 hX.2.2.1 (fun e he => ?_)⟩
      have := hv2 rfl
      rw [bq_3 (by omega) (by omega)]
      show _ = decide (((e / 2 : Nat) : Int) = (x : Int))
      apply Bool.eq_iff_iff.mpr
      rw [decide_eq_true_iff, decide_eq_true_iff]; omega
    · refine ⟨_, rfl, rs_and h64 hX.2.2.1 (fun e he => ?_)⟩
      rw [bq_1 (by omega) (by omega)]
      show _ = decide ((e : Int) = (x : Int))
      apply Bool.eq_iff_iff.mpr
      rw [decide_eq_true_iff, decide_eq_true_iff]; omega
  obtain ⟨p, hp1, hp2⟩ := key
  refine ⟨rs9 (isK (14 + kd) x (m.1 40)) s n, pL t 370 (top + 1).toNat _, _, HVl.one (fun K q => ?_) hfr.rf hE.2.2.2.2.2.1 rfl ht, rd_nu hE.2.1.1 hr (by omega) (by omega) htc htc1 (by omega) (by omega), mf4.rd, pI_at, fun e he h => rs_sub h64 he h⟩
  have := ev_plain (N := N) (o := o) (K := K) (s := s) (q := q) (x := a) (top := top) (t := t) (vl := x) (kd := kd) (p := p) (by omega) (by omega) (by omega) hX.2.2.2.1 hca (by omega) hp1
  rw [hp2] at this
  exact this
theorem wo_fa {v : Int} (hv : 0 ≤ v ∧ v < 4) (h1 : cd a = v * 64 + 7) (h2 : tk c = 21) (h3 : tk (c + 1) = 31 + v) : WO M H cd tk a (a + 1) c (c + 2) := by
  refine ⟨by omega, by omega, fun N o n D t m s top hX hC hT hr hD ht ht2 => ?_⟩
  obtain ⟨D, rfl⟩ : ∃ k, D = k + 1 := ⟨D - 1, by omega⟩
  have hca := hC.1 a (by omega) (by omega)
  have htc := hT.1 c (by omega) (by omega)
  have htc1 := hT.1 (c + 1) (by omega) (by omega)
  rw [h1] at hca; rw [h2] at htc; rw [h3] at htc1
  have hl := hC.2
  have hd := hT.2
  have hE := hX.2.1
  have h64 := hE.n64
  have hNN := hX.1
  obtain ⟨x, rfl⟩ := Int.eq_ofNat_of_zero_le hv.1
  have key : f_X1_plainly N o 7 x t = some (t.2 (396 + 10 * o) x, t) ∧ s &&& t.2 (396 + 10 * o) x = rs9 (isK 21 x (m.1 40)) s n := by
    constructor
    · unfold f_X1_plainly
      rw [rnI_ok (by omega), if_neg (by decide), if_neg (by decide), if_neg (by decide), if_neg (by decide), if_neg (by decide), if_neg (by decide), if_pos rfl, show ((x : Int) % 4) = (x : Int) by omega, ixI_ok (by omega), lt1_k, Int.toNat_natCast]
    · refine rs_and h64 hX.2.2.1 (fun e he => ?_)
      rw [hE.2.2.2.1 x e (by omega) (by omega)]
      show _ = decide (m.1 40 e = (x : Int))
      apply Bool.eq_iff_iff.mpr
      rw [decide_eq_true_iff, decide_eq_true_iff]
      exact ⟨fun h => h.2, fun h => ⟨he, h⟩⟩
  obtain ⟨hp1, hp2⟩ := key
  refine ⟨rs9 (isK 21 x (m.1 40)) s n, pL t 370 (top + 1).toNat _, _, HVl.one (fun K q => ?_) hfr.rf hE.2.2.2.2.2.1 rfl ht, rd_fa hE.2.1.1 hr (by omega) htc htc1 (by omega) (by omega), mf4.rd, pI_at, fun e he h => rs_sub h64 he h⟩
  have := ev_plain (N := N) (o := o) (K := K) (s := s) (q := q) (x := a) (top := top) (t := t) (vl := x) (kd := 7) (p := t.2 (396 + 10 * o) x) (by omega) (by omega) (by omega) hX.2.2.2.1 hca (by omega) hp1
  rw [hp2] at this
  exact this
theorem EVr.fo {o n : Nat} {t m : St} (h : EVr o t m n) {f : Nat} (hf : (f : Int) < m.1 200 14) : ∃ k, fmO m f k ∧ fhO t m f k ∧ (f : Int) < t.1 312 2 := by
  obtain ⟨k, h1, h2⟩ := h.2.2.2.2.2.2.2.2 f hf
  exact ⟨k, h1, h2, by rw [h.2.2.2.2.2.2.2.1.1]; exact hf⟩
theorem gst_lt {m : St} {n f k : Nat} {s : Int64} {sl : Int} (hF : fmF m n) (hO : fmO m f k) (hsl : sl = -1 ∨ (0 ≤ sl ∧ sl < k)) {e : Nat} (he : e < 64) (h : bq (gst m n f k s sl n) e = true) : e < n := by
  have hg := g_inv (s := s) hF hO n (Nat.le_refl _) e he
  exact (hg.2.1 ((hg.2.2.1 sl hsl).mp h).1).2
/-- the greedy copies of a form, both sides -/
theorem gr_both {N o n f k : Nat} {t m : St} {s : Int64} {sl : Int} (hX : CXr M N o n t m s) (hO : fmO m f k) (hf : fhO t m f k) (hff : (f : Int) < t.1 312 2) (hsl : sl = -1 ∨ (0 ≤ sl ∧ sl < k)) (x : Int) :
    ∃ (u v : St), f_X2_findGreedy N o f s t = some u ∧ f_X2_inGreedy N o f sl u = some (gst m n f k s sl n, u) ∧ hfr t u ∧ u.2 370 = t.2 370 ∧ CIk u ∧ f_X12_greedy N s f sl (pI m 200 114 x) = some (gst m n f k s sl n, v) ∧ mf4 m v ∧ v.1 200 114 = x := by
  obtain ⟨hN, ⟨ho, hE1, hE2, hE3, hE4, hE5, hE6, hE7, hE8⟩, hs, hl, hbk⟩ := hX
  obtain ⟨u, a1, a2, a3, a4, a5, a6⟩ := h_find (N := N) (s := s) ho hE1 hE2 hO hf hff hE5 hE6 (by omega)
  have hi := h_in (N := N) (sl := sl) (hE1.fr a2 ho) hO hsl a6 (by omega)
  have hO2 : fmO (pI m 200 114 x) f k := by
    unfold fmO
    rw [pI_ne (by decide), pI_ne (by decide), pI_ne (by decide), pI_ne (by decide), pI_ne (by decide)]
    exact hO
  obtain ⟨v, b1, b2⟩ := s_greedy (N := N) (s := s) (sl := sl) hO2 (hE1.1.rd (x := x)) hsl (by omega)
  refine ⟨u, v, a1, hi, a2, a4, a5, ?_, mf4.rd.tr b2.m4, ?_⟩
  · rw [b1]
    have hg : gst (pI m 200 114 x) n f k s sl n = gst m n f k s sl n := by
      apply bq_ext
      intro e he
      have ag : agr (pI m 200 114 x) m n f k := by
        refine ⟨pI_nf (by decide), fun d hd => ?_, fun j hj => ?_⟩
        · rw [pI_ne (by decide), pI_ne (by decide), pI_ne (by decide)]; exact ⟨rfl, rfl, rfl⟩
        · rw [pI_ne (by decide), pI_ne (by decide), pI_ne (by decide), pI_ne (by decide)]; exact ⟨rfl, rfl, rfl, rfl⟩
      have g1 := (g_inv (s := s) (hE1.1.rd (x := x)) hO2 n (Nat.le_refl _) e he).2.2.1 sl hsl
      have g2 := (g_inv (s := s) hE1.1 hO n (Nat.le_refl _) e he).2.2.1 sl hsl
      have g3 := (agr_gm (s := s) ag hE1.1 n (Nat.le_refl _)).2
      rw [g3] at g1
      exact Bool.eq_iff_iff.mpr (g1.trans g2.symm)
    rw [hg]
  · rw [b2.2.1 114 (by decide) (by decide) (by decide) (by decide) (by decide), pI_at]
theorem wo_in {f : Nat} (hf : (f : Int) < M.1 200 14) (h1 : cd a = (f : Int) * 64 + 8) (h2 : tk c = 22) (h3 : tk (c + 1) = 2000 + (f : Int)) : WO M H cd tk a (a + 1) c (c + 2) := by
  refine ⟨by omega, by omega, fun N o n D t m s top hX hC hT hr hD ht ht2 => ?_⟩
  obtain ⟨D, rfl⟩ : ∃ k, D = k + 1 := ⟨D - 1, by omega⟩
  have hca := hC.1 a (by omega) (by omega)
  have htc := hT.1 c (by omega) (by omega)
  have htc1 := hT.1 (c + 1) (by omega) (by omega)
  rw [h1] at hca; rw [h2] at htc; rw [h3] at htc1
  have hl := hC.2
  have hd := hT.2
  have hE := hX.2.1
  have h64 := hE.n64
  obtain ⟨k, hO, hfo, hff⟩ := hE.fo (Int.lt_of_lt_of_le hf hX.2.2.2.2.1)
  have hf40 := hO.1
  obtain ⟨u, v, a1, a2, a3, a4, a5, a6, a7, a8⟩ := gr_both (sl := -1) hX hO hfo hff (Or.inl rfl) ((c + 2 : Nat) : Int)
  refine ⟨gst m n f k s (-1) n, pL u 370 (top + 1).toNat _, v, HVl.one (fun K q => ?_) a3 a5 a4 ht, by rw [rd_in hr (by omega) htc htc1]; exact a6, a7, a8, fun e he h => gst_lt hE.2.1.1 hO (Or.inl rfl) he h⟩
  exact ev_in (N := N) (o := o) (K := K) (s := s) (q := q) (x := a) (top := top) (t := t) (vl := f) (by omega) (by omega) hX.2.2.2.1 hca (by omega) a1 a2
theorem wo_at {f : Nat} {v : Int} (hf : (f : Int) < M.1 200 14) (hv : 0 ≤ v ∧ v < M.1 18 f) (h1 : cd a = ((f : Int) * 8 + v) * 64 + 9) (h2 : tk c = 23) (h3 : tk (c + 1) = 2000 + (f : Int)) (h4 : tk (c + 2) = 1000 + v) : WO M H cd tk a (a + 1) c (c + 3) := by
  refine ⟨by omega, by omega, fun N o n D t m s top hX hC hT hr hD ht ht2 => ?_⟩
  obtain ⟨D, rfl⟩ : ∃ k, D = k + 1 := ⟨D - 1, by omega⟩
  have hca := hC.1 a (by omega) (by omega)
  have htc := hT.1 c (by omega) (by omega)
  have htc1 := hT.1 (c + 1) (by omega) (by omega)
  have htc2 := hT.1 (c + 2) (by omega) (by omega)
  rw [h1] at hca; rw [h2] at htc; rw [h3] at htc1; rw [h4] at htc2
  have hl := hC.2
  have hd := hT.2
  have hE := hX.2.1
  have h64 := hE.n64
  obtain ⟨k, hO, hfo, hff⟩ := hE.fo (Int.lt_of_lt_of_le hf hX.2.2.2.2.1)
  have hf40 := hO.1
  have hk8 := hO.2.2.2.1
  have hvk : v < k := by have := hX.2.2.2.2.2 f hf; have := hO.2.1; omega
  obtain ⟨u, w, a1, a2, a3, a4, a5, a6, a7, a8⟩ := gr_both (sl := v) hX hO hfo hff (Or.inr ⟨hv.1, hvk⟩) ((c + 3 : Nat) : Int)
  refine ⟨gst m n f k s v n, pL u 370 (top + 1).toNat _, w, HVl.one (fun K q => ?_) a3 a5 a4 ht, by rw [rd_at hr (by omega) htc htc1 htc2]; exact a6, a7, a8, fun e he h => gst_lt hE.2.1.1 hO (Or.inr ⟨hv.1, hvk⟩) he h⟩
  refine ev_at (N := N) (o := o) (K := K) (s := s) (q := q) (x := a) (top := top) (t := t) (vl := (f : Int) * 8 + v) (by omega) (by omega) hX.2.2.2.1 hca (by omega) ?_ ?_
  · rw [show (((f : Int) * 8 + v) / 8) = (f : Int) by omega]; exact a1
  · rw [show (((f : Int) * 8 + v) / 8) = (f : Int) by omega, show (((f : Int) * 8 + v) % 8) = v by omega]; exact a2
end
