/-! the beginning: both states, and what holds between them -/
section
variable {gx gy gf gt gh gc kx ky kw kt fx fy fw bx by_ bw : Nat → Int32}
def t0I (gx gy gf gt gh gc : Nat → Int32) (a d : Nat) : Int :=
  bif Nat.beq a 390 then (gx d).toInt else bif Nat.beq a 391 then (gy d).toInt else bif Nat.beq a 392 then (gf d).toInt else bif Nat.beq a 393 then (gt d).toInt else bif Nat.beq a 394 then (gh d).toInt else
  bif Nat.beq a 395 then (nI (srtO (cdLt (stC 0)) (fun _ => 0) (2 * 4) d)).toInt else bif Nat.beq a 397 then (seatOf (stC 0) (2 * 4) d).toInt else bif Nat.beq a 320 then (gc d).toInt else
  bif Nat.beq a 300 then (bif Nat.ble d 13 then 0 else -1) else bif Nat.beq a 305 then (bif Nat.beq d 8 then 8 else bif Nat.beq d 9 then 1 else 0) else bif Nat.beq a 310 then (bif Nat.beq d 14 then -1 else 0) else
  bif Nat.beq a 312 then (bif Nat.beq d 1 then 40 else 0) else bif Nat.beq a 313 then (bif Nat.beq d 1 then 100 else 0) else bif Nat.beq a 314 then (bif Nat.beq d 1 then 60 else 0) else 0
def t0L (a d : Nat) : Int64 := bif Nat.beq a 331 then kwG 182 d else bif Nat.beq a 396 then faOf (stC 0) (2 * 4) d else 0
def t0H (gx gy gf gt gh gc : Nat → Int32) : St := (t0I gx gy gf gt gh gc, t0L)
def m0I (kx ky kw kt fx fy fw bx by_ bw : Nat → Int32) (a d : Nat) : Int :=
  bif Nat.beq a 38 then (kx d).toInt else bif Nat.beq a 39 then (ky d).toInt else bif Nat.beq a 40 then (kw d).toInt else bif Nat.beq a 41 then (kt d).toInt else
  bif Nat.beq a 44 then (fx d).toInt else bif Nat.beq a 45 then (fy d).toInt else bif Nat.beq a 46 then (fw d).toInt else bif Nat.beq a 47 then (bx d).toInt else bif Nat.beq a 48 then (by_ d).toInt else bif Nat.beq a 49 then (bw d).toInt else
  bif Nat.beq a 200 then (bif Nat.beq d 37 then 8 else bif Nat.beq d 67 then -1 else bif Nat.beq d 68 then -1 else bif Nat.beq d 69 then -1 else bif Nat.beq d 99 then -1 else bif Nat.beq d 101 then -1 else 0) else 0
def m0M (kx ky kw kt fx fy fw bx by_ bw : Nat → Int32) : St := (m0I kx ky kw kt fx fy fw bx by_ bw, fun _ _ => 0)
theorem flo_z (h : flo (stC 0) (2 * 4) gx gy gf) {d : Nat} (hd : d < 8) : (gx d).toInt = z0X d ∧ (gy d).toInt = z0Y d ∧ (gf d).toInt = z0W d := by
  obtain ⟨h1, h2, h3, h4⟩ := h d (by omega)
  rw [h2, h3, h4, nI_toInt (by omega), nI_toInt (by omega), nI_toInt (by omega)]
  exact ⟨rfl, rfl, rfl⟩
theorem gr0_0 (hw1 : flo (stC 0) (2 * 4) gx gy gf) (hw3 : ∀ d, d < 2 * 4 → gt d = 0) (hw4 : ∀ d, d < 2 * 4 → gh d = nI (stC 0 d)) (hw5 : ∀ d, d < 2 * 4 → gc d = nI (stC 0 d)) (hm1 : flo (stC 0) (2 * 4) kx ky kw) (hm2 : ∀ d, d < 2 * 4 → kt d = 0) (hm3 : ∀ d, d < 2 * 4 → fx d = kx d ∧ fy d = ky d ∧ fw d = kw d) (hm4 : ∀ d, d < 2 * 4 → bx d = kx d ∧ by_ d = ky d ∧ bw d = kw d) : GR0 8 0 (t0H gx gy gf gt gh gc) (m0M kx ky kw kt fx fy fw bx by_ bw) := by
  generalize hT : t0H gx gy gf gt gh gc = t
  generalize hM : m0M kx ky kw kt fx fy fw bx by_ bw = m
  have T : ∀ a d, t.1 a d = t0I gx gy gf gt gh gc a d := fun a d => by rw [← hT]; rfl
  have TL : ∀ a d, t.2 a d = t0L a d := fun a d => by rw [← hT]; rfl
  have M : ∀ a d, m.1 a d = m0I kx ky kw kt fx fy fw bx by_ bw a d := fun a d => by rw [← hM]; rfl
  have ML : ∀ a d, m.2 a d = 0 := fun a d => by rw [← hM]; rfl
  have m38 : ∀ d, d < 8 → m.1 38 d = z0X d := fun d hd => (M 38 d).trans (flo_z hm1 hd).1
  have m39 : ∀ d, d < 8 → m.1 39 d = z0Y d := fun d hd => (M 39 d).trans (flo_z hm1 hd).2.1
  have m40 : ∀ d, d < 8 → m.1 40 d = z0W d := fun d hd => (M 40 d).trans (flo_z hm1 hd).2.2
  have t90 : ∀ d, d < 8 → t.1 390 d = z0X d := fun d hd => (T 390 d).trans (flo_z hw1 hd).1
  have t91 : ∀ d, d < 8 → t.1 391 d = z0Y d := fun d hd => (T 391 d).trans (flo_z hw1 hd).2.1
  have t92 : ∀ d, d < 8 → t.1 392 d = z0W d := fun d hd => (T 392 d).trans (flo_z hw1 hd).2.2
  have m44 : ∀ d, d < 8 → m.1 44 d = z0X d := fun d hd => (M 44 d).trans (by show (fx d).toInt = _; rw [(hm3 d (by omega)).1]; exact (flo_z hm1 hd).1)
  have m45 : ∀ d, d < 8 → m.1 45 d = z0Y d := fun d hd => (M 45 d).trans (by show (fy d).toInt = _; rw [(hm3 d (by omega)).2.1]; exact (flo_z hm1 hd).2.1)
  have m46 : ∀ d, d < 8 → m.1 46 d = z0W d := fun d hd => (M 46 d).trans (by show (fw d).toInt = _; rw [(hm3 d (by omega)).2.2]; exact (flo_z hm1 hd).2.2)
  have m47 : ∀ d, d < 8 → m.1 47 d = z0X d := fun d hd => (M 47 d).trans (by show (bx d).toInt = _; rw [(hm4 d (by omega)).1]; exact (flo_z hm1 hd).1)
  have m48 : ∀ d, d < 8 → m.1 48 d = z0Y d := fun d hd => (M 48 d).trans (by show (by_ d).toInt = _; rw [(hm4 d (by omega)).2.1]; exact (flo_z hm1 hd).2.1)
  have m49 : ∀ d, d < 8 → m.1 49 d = z0W d := fun d hd => (M 49 d).trans (by show (bw d).toInt = _; rw [(hm4 d (by omega)).2.2]; exact (flo_z hm1 hd).2.2)
  have t94 : ∀ d, d < 8 → t.1 394 d = cdZ (z0X d) (z0Y d) (z0W d) := fun d hd => (T 394 d).trans (by
    show (gh d).toInt = _
    rw [hw4 d (by omega), nI_toInt (by have := (z0_ok d hd).2.2.2.2.2; omega)]
    exact (z0_ok d hd).2.2.2.2.1)
  have t20 : ∀ d, d < 8 → t.1 320 d = cdZ (z0X d) (z0Y d) (z0W d) := fun d hd => (T 320 d).trans (by
    show (gc d).toInt = _
    rw [hw5 d (by omega), nI_toInt (by have := (z0_ok d hd).2.2.2.2.2; omega)]
    exact (z0_ok d hd).2.2.2.2.1)
  have e13 : m.1 200 13 = 0 := M 200 13
  have e14 : m.1 200 14 = 0 := M 200 14
  have e15 : m.1 200 15 = 0 := M 200 15
  have e16 : m.1 200 16 = 0 := M 200 16
  have e17 : m.1 200 17 = 0 := M 200 17
  have n12 : t.1 312 2 = 0 := T 312 2
  have n13 : t.1 313 2 = 0 := T 313 2
  have n14 : t.1 314 2 = 0 := T 314 2
  have nn : ∀ o : Nat, o < 3 → t.1 (312 + o) 2 = 0 := fun o ho => by
    rcases (show o = 0 ∨ o = 1 ∨ o = 2 by omega) with rfl | rfl | rfl
    · exact n12
    · exact n13
    · exact n14
  have hB : BK0 t m := by
    refine ⟨⟨by omega, fun o ho => by rw [nn o ho]; omega, fun k hk => by omega, fun s n hs hn => by rw [nn s hs] at hn; omega, fun k l hk => by omega⟩, ⟨⟨0, 0, T 302 18, M 200 33, Or.inr rfl, by omega, T 302 19⟩, ⟨by omega, by omega, by omega, by rw [e17]; exact T 302 16⟩, by omega, ⟨T 312 1, T 313 1, T 314 1⟩, by omega⟩, fun f hf => by omega, fun F hF => by omega, fun p hp => by omega, fun w hw => by omega, fun p q _ hq => by omega⟩
  have hC : CIk t := by
    refine ⟨Or.inl (T 311 3), by rw [T 311 4]; show inR 0; omega, fun f hf => by rw [T 381 f]; show inR 0; omega, fun o ho h9 => ?_⟩
    rw [T 311 3] at h9
    have h9 : (0 : Int) = 306 + (o : Int) := h9
    omega
  have hE : EVr 0 t m 8 := by
    refine ⟨by omega, ⟨⟨M 200 37, by omega, fun d hd => ?_, fun d e hd he h1 h2 => ?_⟩, T 305 8, fun d hd => ?_, fun px py hx hy => ?_⟩, fun i hi => ?_, fun k d hk hd => ?_, fun _ d hd => ?_, hC, by rw [T (305 + 0) 9]; show inR 1; omega, by omega, fun f hf => by omega⟩
    · rw [m38 d hd, m39 d hd, m40 d hd]; exact z0_f.2.1 d hd
    · rw [m38 d hd, m38 e he] at h1
      rw [m39 d hd, m39 e he] at h2
      exact z0_ne d hd e he h1 h2
    · show t.1 390 d = _ ∧ t.1 391 d = _ ∧ t.1 392 d = _
      rw [t90 d hd, t91 d hd, t92 d hd, m38 d hd, m39 d hd, m40 d hd]; exact ⟨rfl, rfl, rfl⟩
    · rw [who9_cong (fun d hd => ⟨m38 d hd, m39 d hd⟩), ← z0_seat py hy px hx]
      exact T 397 (64 * py + px)
    · have q := (odM_lt (m := m) hi).2
      rw [← q, ord9_cong (fun d hd => ⟨m38 d hd, m39 d hd⟩), ← z0_ord i hi]
      exact T 395 i
    · rw [TL (396 + 10 * 0) k]
      show bq (faOf (stC 0) (2 * 4) k) d = _
      rw [z0_fa k hk d hd]
      by_cases h8 : d < 8
      · rw [m40 d h8]
      · exact decide_eq_decide.mpr ⟨fun q => absurd q.1 h8, fun q => absurd q.1 h8⟩
    · show _ ∧ _ ∧ _ ∧ t.1 394 d = _
      rw [m44 d hd, m45 d hd, m46 d hd]
      exact ⟨(z0_ok d hd).1, (z0_ok d hd).2.1, (z0_ok d hd).2.2.1, t94 d hd⟩
  have g0 : ∀ d, d < 8 → t.1 393 d = 0 := fun d hd => (T 393 d).trans (by show (gt d).toInt = 0; rw [hw3 d (by omega)]; rfl)
  have k0 : ∀ d, d < 8 → m.1 41 d = 0 := fun d hd => (M 41 d).trans (by show (kt d).toInt = 0; rw [hm2 d (by omega)]; rfl)
  refine ⟨⟨hB, fun w hw => (TL 331 w).trans (z0_kw w hw), ⟨⟨0, by omega, T 301 1, M 200 1, fun i hi => by omega⟩, fun i _ => by rw [M 0 i]; show (-128 : Int) ≤ 0 ∧ (0 : Int) < 128; omega⟩, ?_⟩, ⟨⟨by omega, hE⟩, fun d hd => ?_, fun d hd => ?_, fun d hd => ?_, fun d hd => ?_, ?_, ?_⟩, ⟨Or.inl ⟨T 307 2, M 200 50⟩, ⟨T 307 8, M 200 54⟩, ?_, ?_, ?_, ?_⟩, ⟨?_, ?_, ?_, ?_, ?_, ?_⟩, ⟨⟨⟨fun _ => 0, fun _ => 0, fun _ => 0, 0, ⟨by omega, fun d hd => by omega, fun d e hd => by omega⟩, T 306 8, fun d hd => by omega, fun px py _ _ => T 407 (64 * py + px)⟩, ?_, fun s _ => ?_⟩, 0, by omega, T 310 13, M 200 89, ?_, ?_, ?_⟩, Or.inl ⟨T 310 14, T 310 16, ML 200 100, M 200 101, ?_, ?_⟩⟩
  · have h1 : t.1 300 13 = 0 := T 300 13
    have h2 : m.1 200 8 = 0 := M 200 8
    omega
  · have h1 := g0 d hd
    have h2 := k0 d hd
    omega
  · rw [m38 d hd, m39 d hd]; have := (z0_ok d hd).2.2.2.1; omega
  · rw [m47 d hd, m48 d hd, m49 d hd]
    exact ⟨(z0_ok d hd).1, (z0_ok d hd).2.1, (z0_ok d hd).2.2.1, t20 d hd⟩
  · rw [m47 d hd, m48 d hd]; have := (z0_ok d hd).2.2.2.1; omega
  · have h1 : t.1 305 9 = 1 := T 305 9
    omega
  · have h1 : t.1 305 9 = 1 := T 305 9
    omega
  · have h1 : t.1 307 9 = 0 := T 307 9
    omega
  · have h1 : m.1 200 53 = 0 := M 200 53
    omega
  · have h1 : t.1 307 10 = 0 := T 307 10
    omega
  · have h1 : t.1 307 10 = 0 := T 307 10
    omega
  · have h1 : t.1 300 11 = 0 := T 300 11
    have h2 : m.1 200 42 = 0 := M 200 42
    omega
  · have h1 : t.1 300 12 = 0 := T 300 12
    have h2 : m.1 200 43 = 0 := M 200 43
    omega
  · have h1 : t.1 300 14 = -1 := T 300 14
    have h2 : t.1 300 15 = -1 := T 300 15
    have h3 : t.1 300 16 = -1 := T 300 16
    have h4 : m.1 200 67 = -1 := M 200 67
    have h5 : m.1 200 68 = -1 := M 200 68
    have h6 : m.1 200 69 = -1 := M 200 69
    omega
  · have h4 : m.1 200 67 = -1 := M 200 67
    omega
  · have h4 : m.1 200 68 = -1 := M 200 68
    omega
  · have h4 : m.1 200 69 = -1 := M 200 69
    omega
  · have h1 : t.1 304 11 = 0 := T 304 11
    omega
  · have h1 : t.1 304 11 = 0 := T 304 11
    have h2 : t.1 378 s = 0 := T 378 s
    omega
  · have h1 : t.1 304 11 = 0 := T 304 11
    omega
  · have h1 : t.1 306 9 = 0 := T 306 9
    omega
  · have h1 : t.1 306 9 = 0 := T 306 9
    omega
  · have h1 : m.1 200 102 = 0 := M 200 102
    omega
  · have h1 : m.1 200 102 = 0 := M 200 102
    omega
theorem his_0 {μ : St} {len : Nat → Nat} : HISr 8 0 (t0H gx gy gf gt gh gc) (m0M kx ky kw kt fx fy fw bx by_ bw) μ 0 len := by
  have h1 : (t0H gx gy gf gt gh gc).1 309 2 = 0 := rfl
  have h2 : (t0H gx gy gf gt gh gc).1 309 1 = 0 := rfl
  have h3 : (m0M kx ky kw kt fx fy fw bx by_ bw).1 200 59 = 0 := rfl
  have h4 : (m0M kx ky kw kt fx fy fw bx by_ bw).1 200 60 = 0 := rfl
  refine ⟨by omega, by omega, by omega, fun i hi => by omega, fun s hs1 hs2 => by omega⟩
end
