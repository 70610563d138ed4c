/-! the beginning: who stands where -/
def z0X (d : Nat) : Int := ((4 * (stC 0 d / 4 % 64) : Nat) : Int)
def z0Y (d : Nat) : Int := ((4 * (stC 0 d / 256) : Nat) : Int)
def z0W (d : Nat) : Int := ((stC 0 d % 4 : Nat) : Int)
theorem z0_ok : ∀ d, d < 8 → ok4 (z0X d) ∧ ok4 (z0Y d) ∧ (0 ≤ z0W d ∧ z0W d ≤ 3) ∧ (z0X d ≤ 28 ∧ z0Y d ≤ 28) ∧ ((stC 0 d : Nat) : Int) = cdZ (z0X d) (z0Y d) (z0W d) ∧ stC 0 d < 16384 := by decide +kernel
theorem z0_ne : ∀ d, d < 8 → ∀ e, e < 8 → z0X d = z0X e → z0Y d = z0Y e → d = e := by decide +kernel
theorem z0_f : FXs z0X z0Y z0W 8 := ⟨by omega, fun d hd => ⟨(z0_ok d hd).1, (z0_ok d hd).2.1, (z0_ok d hd).2.2.1.1, (z0_ok d hd).2.2.1.2⟩, fun d e hd he => z0_ne d hd e he⟩
theorem z0_ord : ∀ i, i < 8 → (nI (srtO (cdLt (stC 0)) (fun _ => 0) (2 * 4) i)).toInt = ord9 z0X z0Y 8 i := by decide +kernel
theorem z0_fa : ∀ k, k < 4 → ∀ d, d < 64 → bq (faOf (stC 0) (2 * 4) k) d = decide (d < 8 ∧ z0W d = (k : Int)) := by decide +kernel
theorem z0_seat : ∀ y, y < 64 → ∀ x, x < 64 → (seatOf (stC 0) (2 * 4) (64 * y + x)).toInt = who9 z0X z0Y 8 (4 * (x : Int)) (4 * (y : Int)) + 1 := by decide +kernel
theorem z0_kw : ∀ w, w < 38 → kwG 182 w = kwP w := by decide +kernel
