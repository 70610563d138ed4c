/-! the model's object: its fields by a function of their numbers -/
def mfs (g : Nat → Value) : List Value := (List.range 116).map g
def updG (g : Nat → Value) (k : Nat) (v : Value) : Nat → Value := fun j => bif Nat.beq j k then v else g j
theorem mfs_get (g : Nat → Value) (k : Nat) (hk : k < 116) : (mfs g)[k]? = some (g k) := by simp [mfs, hk]
theorem mfs_len (g : Nat → Value) : (mfs g).length = 116 := by simp [mfs]
theorem mfs_ext {g g' : Nat → Value} (h : ∀ k, k < 116 → g k = g' k) : mfs g = mfs g' := by
  unfold mfs
  exact List.map_congr_left (fun k hk => h k (List.mem_range.mp hk))
theorem mfs_set (g : Nat → Value) (k : Nat) (v : Value) (hk : k < 116) : (mfs g).set k v = mfs (updG g k v) := by
  apply List.ext_getElem?
  intro i
  by_cases e : k = i
  · subst e
    rw [List.getElem?_set_self (by rw [mfs_len]; exact hk), mfs_get _ _ hk]
    show some v = some (bif Nat.beq k k then v else g k)
    rw [Nat.beq_refl]; rfl
  · rw [List.getElem?_set_ne e]
    by_cases hi : i < 116
    · rw [mfs_get _ _ hi, mfs_get _ _ hi]
      show some (g i) = some (bif Nat.beq i k then v else g i)
      rw [show Nat.beq i k = false from Bool.eq_false_iff.mpr (fun h => e (Nat.eq_of_beq_eq_true h).symm)]; rfl
    · rw [List.getElem?_eq_none (by rw [mfs_len]; omega), List.getElem?_eq_none (by rw [mfs_len]; omega)]
def mRefs : List Nat := [0, 9, 10, 11, 12, 18, 19, 20, 21, 22, 23, 24, 25, 26, 27, 28, 29, 30, 31, 32, 38, 39, 40, 41, 44, 45, 46, 47, 48, 49, 55, 56, 57, 58, 61, 62, 63, 64, 65, 66, 73, 74, 76, 77, 78, 79, 80, 81, 86, 87, 92, 93, 94, 95, 96, 97, 103, 104, 105, 106, 107, 108, 109]
def mRef (k : Nat) : Bool := mRefs.any (fun i => Nat.beq i k)
def mOK (r : Nat → Nat) (g : Nat → Value) : Prop := ∀ k, mRef k = true → g k = .ref (r k)
theorem mOK_u {r : Nat → Nat} {g : Nat → Value} (h : mOK r g) {k : Nat} {v : Value} (hk : mRef k = false) : mOK r (updG g k v) := by
  intro j hj
  show (bif Nat.beq j k then v else g j) = _
  rw [show Nat.beq j k = false from Bool.eq_false_iff.mpr (fun q => by rw [Nat.eq_of_beq_eq_true q, hk] at hj; cases hj)]
  exact h j hj
theorem mRef_in {k : Nat} (h : mRef k = true) : k ∈ mRefs := by
  obtain ⟨i, h1, h2⟩ := List.any_eq_true.mp h
  rw [← Nat.eq_of_beq_eq_true h2]; exact h1
theorem mOK_of {r : Nat → Nat} {g : Nat → Value} (h : ∀ k ∈ mRefs, g k = .ref (r k)) : mOK r g := fun k hk => h k (mRef_in hk)
