/-! texts, pure: n bytes B; the arrays that hold them -/
def txt (B : Nat → Nat) (n : Nat) (f : Nat → Int32) : Prop := ∀ j, j < n → B j < 256 ∧ f j &&& nI 255 = nI (B j)
def isLet (c : Nat) : Bool := decide (97 ≤ c ∧ c ≤ 122 ∨ 65 ≤ c ∧ c ≤ 90)
def isDig (c : Nat) : Bool := decide (48 ≤ c ∧ c ≤ 57)
def isBlk (c : Nat) : Bool := decide (c = 9 ∨ c = 10 ∨ c = 13 ∨ c = 32)
/-- where the next token begins: from a place on, in a remark or not -/
def skC (B : Nat → Nat) (n : Nat) : Nat → Bool → Nat → Nat
  | 0, _, _ => n
  | k + 1, rm, p => if n ≤ p then n else if B p = 35 then skC B n k true (p + 1) else if B p = 10 then skC B n k false (p + 1) else if isBlk (B p) = false ∧ rm = false then p else skC B n k rm (p + 1)
theorem dX10_isLetter_0 : decode cX10_isLetter 0 = .ok (.iload_n 0, 1) := by decide +kernel
theorem dX10_isLetter_1 : decode cX10_isLetter 1 = .ok (.bipush 97, 2) := by decide +kernel
theorem dX10_isLetter_3 : decode cX10_isLetter 3 = .ok (.if_icmp .lt 9, 3) := by decide +kernel
theorem dX10_isLetter_6 : decode cX10_isLetter 6 = .ok (.iload_n 0, 1) := by decide +kernel
theorem dX10_isLetter_7 : decode cX10_isLetter 7 = .ok (.bipush 122, 2) := by decide +kernel
theorem dX10_isLetter_9 : decode cX10_isLetter 9 = .ok (.if_icmp .le 15, 3) := by decide +kernel
theorem dX10_isLetter_12 : decode cX10_isLetter 12 = .ok (.iload_n 0, 1) := by decide +kernel
theorem dX10_isLetter_13 : decode cX10_isLetter 13 = .ok (.bipush 65, 2) := by decide +kernel
theorem dX10_isLetter_15 : decode cX10_isLetter 15 = .ok (.if_icmp .lt 13, 3) := by decide +kernel
theorem dX10_isLetter_18 : decode cX10_isLetter 18 = .ok (.iload_n 0, 1) := by decide +kernel
theorem dX10_isLetter_19 : decode cX10_isLetter 19 = .ok (.bipush 90, 2) := by decide +kernel
theorem dX10_isLetter_21 : decode cX10_isLetter 21 = .ok (.if_icmp .gt 7, 3) := by decide +kernel
theorem dX10_isLetter_24 : decode cX10_isLetter 24 = .ok (.iconst 1, 1) := by decide +kernel
theorem dX10_isLetter_25 : decode cX10_isLetter 25 = .ok (.goto 4, 3) := by decide +kernel
theorem dX10_isLetter_28 : decode cX10_isLetter 28 = .ok (.iconst 0, 1) := by decide +kernel
theorem dX10_isLetter_29 : decode cX10_isLetter 29 = .ok (.ireturn, 1) := by decide +kernel
abbrev rm_k_X10_isLetter : Room := { frames := 0, cells := 0, slots := 0, locals := 0 }
set_option maxHeartbeats 4000000 in
set_option maxRecDepth 100000 in
theorem k_X10_isLetter (l : Launch) (E : cE) (c9 : Nat) (hc : c9 < 256) : cM l E yX10_isLetter cX10_isLetter 1 (some .boolean) rm_k_X10_isLetter [.int (nI c9)] [] (qI E (fun (r : Int32) (_u : Unit) => r = nI (isLet c9).toNat) (fun _ => [])) := by
  refine cM_of (by decide) (Nat.le_of_ble_eq_true rfl) ?_
  intro p e s m below meth c ls A F hA hS hP hD hK hZ hl
  obtain ⟨hx, hb, hr, hml, hown, hts, hlk, hin⟩ := id F
  have hown : s.vm.findClass RX10 = some m.cls := hown
  have hl : lv_has ls 1 [(0, .int (nI c9))] := hl
  refine lv_iload_n hx hb dX10_isLetter_0 rfl (lv_at hl 0 rfl) ?_
  refine lv_bipush (v := nI 97) hx hb dX10_isLetter_1 (by decide) ?_
  refine lv_icmp_lt (tgt := 12) hx hb dX10_isLetter_3 (by decide) (fun c1 => ?_) (fun c1 => ?_)
  · have c1n : c9 < 97 := (nI_ltI (by omega) (by decide)).mp c1
    refine lv_iload_n hx hb dX10_isLetter_12 rfl (lv_at hl 0 rfl) ?_
    refine lv_bipush (v := nI 65) hx hb dX10_isLetter_13 (by decide) ?_
    refine lv_icmp_lt (tgt := 28) hx hb dX10_isLetter_15 (by decide) (fun c3 => ?_) (fun c3 => ?_)
    · have c3n : c9 < 65 := (nI_ltI (by omega) (by decide)).mp c3
      refine lv_iconst (v := nI 0) hx hb dX10_isLetter_28 (by decide) ?_
      exact cB_ret F hP hD hS hK (by decide) () (by rw [show isLet c9 = false from by unfold isLet; exact decide_eq_false (by omega)]; rfl) [] rfl rfl dX10_isLetter_29 (by decide) (by decide)
    · have c3n : 65 ≤ c9 := Nat.le_of_not_lt (fun h => c3 ((nI_ltI (by omega) (by decide)).mpr h))
      refine lv_iload_n hx hb dX10_isLetter_18 rfl (lv_at hl 0 rfl) ?_
      refine lv_bipush (v := nI 90) hx hb dX10_isLetter_19 (by decide) ?_
      refine lv_icmp_gt (tgt := 28) hx hb dX10_isLetter_21 (by decide) (fun c4 => ?_) (fun c4 => ?_)
      · have c4n : 90 < c9 := (nI_ltI (by decide) (by omega)).mp c4
        refine lv_iconst (v := nI 0) hx hb dX10_isLetter_28 (by decide) ?_
        exact cB_ret F hP hD hS hK (by decide) () (by rw [show isLet c9 = false from by unfold isLet; exact decide_eq_false (by omega)]; rfl) [] rfl rfl dX10_isLetter_29 (by decide) (by decide)
      · have c4n : c9 ≤ 90 := Nat.le_of_not_lt (fun h => c4 ((nI_ltI (by decide) (by omega)).mpr h))
        refine lv_iconst (v := nI 1) hx hb dX10_isLetter_24 (by decide) ?_
        refine lv_goto (tgt := 29) hx hb dX10_isLetter_25 (by decide) ?_
        exact cB_ret F hP hD hS hK (by decide) () (by rw [show isLet c9 = true from by unfold isLet; exact decide_eq_true (by omega)]; rfl) [] rfl rfl dX10_isLetter_29 (by decide) (by decide)
  · have c1n : 97 ≤ c9 := Nat.le_of_not_lt (fun h => c1 ((nI_ltI (by omega) (by decide)).mpr h))
    refine lv_iload_n hx hb dX10_isLetter_6 rfl (lv_at hl 0 rfl) ?_
    refine lv_bipush (v := nI 122) hx hb dX10_isLetter_7 (by decide) ?_
    refine lv_icmp_le (tgt := 24) hx hb dX10_isLetter_9 (by decide) (fun c2 => ?_) (fun c2 => ?_)
    · have c2n : c9 ≤ 122 := (nI_leI (by omega) (by decide)).mp c2
      refine lv_iconst (v := nI 1) hx hb dX10_isLetter_24 (by decide) ?_
      refine lv_goto (tgt := 29) hx hb dX10_isLetter_25 (by decide) ?_
      exact cB_ret F hP hD hS hK (by decide) () (by rw [show isLet c9 = true from by unfold isLet; exact decide_eq_true (by omega)]; rfl) [] rfl rfl dX10_isLetter_29 (by decide) (by decide)
    · have c2n : 122 < c9 := Nat.lt_of_not_le (fun h => c2 ((nI_leI (by omega) (by decide)).mpr h))
      refine lv_iload_n hx hb dX10_isLetter_12 rfl (lv_at hl 0 rfl) ?_
      refine lv_bipush (v := nI 65) hx hb dX10_isLetter_13 (by decide) ?_
      refine lv_icmp_lt (tgt := 28) hx hb dX10_isLetter_15 (by decide) (fun c3 => ?_) (fun c3 => ?_)
      · have c3n : c9 < 65 := (nI_ltI (by omega) (by decide)).mp c3
        refine lv_iconst (v := nI 0) hx hb dX10_isLetter_28 (by decide) ?_
        exact cB_ret F hP hD hS hK (by decide) () (by rw [show isLet c9 = false from by unfold isLet; exact decide_eq_false (by omega)]; rfl) [] rfl rfl dX10_isLetter_29 (by decide) (by decide)
      · have c3n : 65 ≤ c9 := Nat.le_of_not_lt (fun h => c3 ((nI_ltI (by omega) (by decide)).mpr h))
        refine lv_iload_n hx hb dX10_isLetter_18 rfl (lv_at hl 0 rfl) ?_
        refine lv_bipush (v := nI 90) hx hb dX10_isLetter_19 (by decide) ?_
        refine lv_icmp_gt (tgt := 28) hx hb dX10_isLetter_21 (by decide) (fun c4 => ?_) (fun c4 => ?_)
        · have c4n : 90 < c9 := (nI_ltI (by decide) (by omega)).mp c4
          refine lv_iconst (v := nI 0) hx hb dX10_isLetter_28 (by decide) ?_
          exact cB_ret F hP hD hS hK (by decide) () (by rw [show isLet c9 = false from by unfold isLet; exact decide_eq_false (by omega)]; rfl) [] rfl rfl dX10_isLetter_29 (by decide) (by decide)
        · have c4n : c9 ≤ 90 := Nat.le_of_not_lt (fun h => c4 ((nI_ltI (by decide) (by omega)).mpr h))
          refine lv_iconst (v := nI 1) hx hb dX10_isLetter_24 (by decide) ?_
          refine lv_goto (tgt := 29) hx hb dX10_isLetter_25 (by decide) ?_
          exact cB_ret F hP hD hS hK (by decide) () (by rw [show isLet c9 = true from by unfold isLet; exact decide_eq_true (by omega)]; rfl) [] rfl rfl dX10_isLetter_29 (by decide) (by decide)
theorem yy_X10_isLetter : cY yX10_isLetter cX10_isLetter 1 (some .boolean) 1 := ⟨wdK_X10_isLetter, wdZ_RX10, by decide +kernel⟩
theorem dX12_isLetter_0 : decode cX12_isLetter 0 = .ok (.iload_n 0, 1) := by decide +kernel
theorem dX12_isLetter_1 : decode cX12_isLetter 1 = .ok (.bipush 97, 2) := by decide +kernel
theorem dX12_isLetter_3 : decode cX12_isLetter 3 = .ok (.if_icmp .lt 9, 3) := by decide +kernel
theorem dX12_isLetter_6 : decode cX12_isLetter 6 = .ok (.iload_n 0, 1) := by decide +kernel
theorem dX12_isLetter_7 : decode cX12_isLetter 7 = .ok (.bipush 122, 2) := by decide +kernel
theorem dX12_isLetter_9 : decode cX12_isLetter 9 = .ok (.if_icmp .le 15, 3) := by decide +kernel
theorem dX12_isLetter_12 : decode cX12_isLetter 12 = .ok (.iload_n 0, 1) := by decide +kernel
theorem dX12_isLetter_13 : decode cX12_isLetter 13 = .ok (.bipush 65, 2) := by decide +kernel
theorem dX12_isLetter_15 : decode cX12_isLetter 15 = .ok (.if_icmp .lt 13, 3) := by decide +kernel
theorem dX12_isLetter_18 : decode cX12_isLetter 18 = .ok (.iload_n 0, 1) := by decide +kernel
theorem dX12_isLetter_19 : decode cX12_isLetter 19 = .ok (.bipush 90, 2) := by decide +kernel
theorem dX12_isLetter_21 : decode cX12_isLetter 21 = .ok (.if_icmp .gt 7, 3) := by decide +kernel
theorem dX12_isLetter_24 : decode cX12_isLetter 24 = .ok (.iconst 1, 1) := by decide +kernel
theorem dX12_isLetter_25 : decode cX12_isLetter 25 = .ok (.goto 4, 3) := by decide +kernel
theorem dX12_isLetter_28 : decode cX12_isLetter 28 = .ok (.iconst 0, 1) := by decide +kernel
theorem dX12_isLetter_29 : decode cX12_isLetter 29 = .ok (.ireturn, 1) := by decide +kernel
abbrev rm_k_X12_isLetter : Room := { frames := 0, cells := 0, slots := 0, locals := 0 }
set_option maxHeartbeats 4000000 in
set_option maxRecDepth 100000 in
theorem k_X12_isLetter (l : Launch) (E : cE) (c9 : Nat) (hc : c9 < 256) : cM l E yX12_isLetter cX12_isLetter 1 (some .boolean) rm_k_X12_isLetter [.int (nI c9)] [] (qI E (fun (r : Int32) (_u : Unit) => r = nI (isLet c9).toNat) (fun _ => [])) := by
  refine cM_of (by decide) (Nat.le_of_ble_eq_true rfl) ?_
  intro p e s m below meth c ls A F hA hS hP hD hK hZ hl
  obtain ⟨hx, hb, hr, hml, hown, hts, hlk, hin⟩ := id F
  have hown : s.vm.findClass RX12 = some m.cls := hown
  have hl : lv_has ls 1 [(0, .int (nI c9))] := hl
  refine lv_iload_n hx hb dX12_isLetter_0 rfl (lv_at hl 0 rfl) ?_
  refine lv_bipush (v := nI 97) hx hb dX12_isLetter_1 (by decide) ?_
  refine lv_icmp_lt (tgt := 12) hx hb dX12_isLetter_3 (by decide) (fun c1 => ?_) (fun c1 => ?_)
  · have c1n : c9 < 97 := (nI_ltI (by omega) (by decide)).mp c1
    refine lv_iload_n hx hb dX12_isLetter_12 rfl (lv_at hl 0 rfl) ?_
    refine lv_bipush (v := nI 65) hx hb dX12_isLetter_13 (by decide) ?_
    refine lv_icmp_lt (tgt := 28) hx hb dX12_isLetter_15 (by decide) (fun c3 => ?_) (fun c3 => ?_)
    · have c3n : c9 < 65 := (nI_ltI (by omega) (by decide)).mp c3
      refine lv_iconst (v := nI 0) hx hb dX12_isLetter_28 (by decide) ?_
      exact cB_ret F hP hD hS hK (by decide) () (by rw [show isLet c9 = false from by unfold isLet; exact decide_eq_false (by omega)]; rfl) [] rfl rfl dX12_isLetter_29 (by decide) (by decide)
    · have c3n : 65 ≤ c9 := Nat.le_of_not_lt (fun h => c3 ((nI_ltI (by omega) (by decide)).mpr h))
      refine lv_iload_n hx hb dX12_isLetter_18 rfl (lv_at hl 0 rfl) ?_
      refine lv_bipush (v := nI 90) hx hb dX12_isLetter_19 (by decide) ?_
      refine lv_icmp_gt (tgt := 28) hx hb dX12_isLetter_21 (by decide) (fun c4 => ?_) (fun c4 => ?_)
      · have c4n : 90 < c9 := (nI_ltI (by decide) (by omega)).mp c4
        refine lv_iconst (v := nI 0) hx hb dX12_isLetter_28 (by decide) ?_
        exact cB_ret F hP hD hS hK (by decide) () (by rw [show isLet c9 = false from by unfold isLet; exact decide_eq_false (by omega)]; rfl) [] rfl rfl dX12_isLetter_29 (by decide) (by decide)
      · have c4n : c9 ≤ 90 := Nat.le_of_not_lt (fun h => c4 ((nI_ltI (by decide) (by omega)).mpr h))
        refine lv_iconst (v := nI 1) hx hb dX12_isLetter_24 (by decide) ?_
        refine lv_goto (tgt := 29) hx hb dX12_isLetter_25 (by decide) ?_
        exact cB_ret F hP hD hS hK (by decide) () (by rw [show isLet c9 = true from by unfold isLet; exact decide_eq_true (by omega)]; rfl) [] rfl rfl dX12_isLetter_29 (by decide) (by decide)
  · have c1n : 97 ≤ c9 := Nat.le_of_not_lt (fun h => c1 ((nI_ltI (by omega) (by decide)).mpr h))
    refine lv_iload_n hx hb dX12_isLetter_6 rfl (lv_at hl 0 rfl) ?_
    refine lv_bipush (v := nI 122) hx hb dX12_isLetter_7 (by decide) ?_
    refine lv_icmp_le (tgt := 24) hx hb dX12_isLetter_9 (by decide) (fun c2 => ?_) (fun c2 => ?_)
    · have c2n : c9 ≤ 122 := (nI_leI (by omega) (by decide)).mp c2
      refine lv_iconst (v := nI 1) hx hb dX12_isLetter_24 (by decide) ?_
      refine lv_goto (tgt := 29) hx hb dX12_isLetter_25 (by decide) ?_
      exact cB_ret F hP hD hS hK (by decide) () (by rw [show isLet c9 = true from by unfold isLet; exact decide_eq_true (by omega)]; rfl) [] rfl rfl dX12_isLetter_29 (by decide) (by decide)
    · have c2n : 122 < c9 := Nat.lt_of_not_le (fun h => c2 ((nI_leI (by omega) (by decide)).mpr h))
      refine lv_iload_n hx hb dX12_isLetter_12 rfl (lv_at hl 0 rfl) ?_
      refine lv_bipush (v := nI 65) hx hb dX12_isLetter_13 (by decide) ?_
      refine lv_icmp_lt (tgt := 28) hx hb dX12_isLetter_15 (by decide) (fun c3 => ?_) (fun c3 => ?_)
      · have c3n : c9 < 65 := (nI_ltI (by omega) (by decide)).mp c3
        refine lv_iconst (v := nI 0) hx hb dX12_isLetter_28 (by decide) ?_
        exact cB_ret F hP hD hS hK (by decide) () (by rw [show isLet c9 = false from by unfold isLet; exact decide_eq_false (by omega)]; rfl) [] rfl rfl dX12_isLetter_29 (by decide) (by decide)
      · have c3n : 65 ≤ c9 := Nat.le_of_not_lt (fun h => c3 ((nI_ltI (by omega) (by decide)).mpr h))
        refine lv_iload_n hx hb dX12_isLetter_18 rfl (lv_at hl 0 rfl) ?_
        refine lv_bipush (v := nI 90) hx hb dX12_isLetter_19 (by decide) ?_
        refine lv_icmp_gt (tgt := 28) hx hb dX12_isLetter_21 (by decide) (fun c4 => ?_) (fun c4 => ?_)
        · have c4n : 90 < c9 := (nI_ltI (by decide) (by omega)).mp c4
          refine lv_iconst (v := nI 0) hx hb dX12_isLetter_28 (by decide) ?_
          exact cB_ret F hP hD hS hK (by decide) () (by rw [show isLet c9 = false from by unfold isLet; exact decide_eq_false (by omega)]; rfl) [] rfl rfl dX12_isLetter_29 (by decide) (by decide)
        · have c4n : c9 ≤ 90 := Nat.le_of_not_lt (fun h => c4 ((nI_ltI (by decide) (by omega)).mpr h))
          refine lv_iconst (v := nI 1) hx hb dX12_isLetter_24 (by decide) ?_
          refine lv_goto (tgt := 29) hx hb dX12_isLetter_25 (by decide) ?_
          exact cB_ret F hP hD hS hK (by decide) () (by rw [show isLet c9 = true from by unfold isLet; exact decide_eq_true (by omega)]; rfl) [] rfl rfl dX12_isLetter_29 (by decide) (by decide)
theorem yy_X12_isLetter : cY yX12_isLetter cX12_isLetter 1 (some .boolean) 1 := ⟨wdK_X12_isLetter, wdZ_RX12, by decide +kernel⟩
theorem dX10_isDigit_0 : decode cX10_isDigit 0 = .ok (.iload_n 0, 1) := by decide +kernel
theorem dX10_isDigit_1 : decode cX10_isDigit 1 = .ok (.bipush 48, 2) := by decide +kernel
theorem dX10_isDigit_3 : decode cX10_isDigit 3 = .ok (.if_icmp .lt 13, 3) := by decide +kernel
theorem dX10_isDigit_6 : decode cX10_isDigit 6 = .ok (.iload_n 0, 1) := by decide +kernel
theorem dX10_isDigit_7 : decode cX10_isDigit 7 = .ok (.bipush 57, 2) := by decide +kernel
theorem dX10_isDigit_9 : decode cX10_isDigit 9 = .ok (.if_icmp .gt 7, 3) := by decide +kernel
theorem dX10_isDigit_12 : decode cX10_isDigit 12 = .ok (.iconst 1, 1) := by decide +kernel
theorem dX10_isDigit_13 : decode cX10_isDigit 13 = .ok (.goto 4, 3) := by decide +kernel
theorem dX10_isDigit_16 : decode cX10_isDigit 16 = .ok (.iconst 0, 1) := by decide +kernel
theorem dX10_isDigit_17 : decode cX10_isDigit 17 = .ok (.ireturn, 1) := by decide +kernel
abbrev rm_k_X10_isDigit : Room := { frames := 0, cells := 0, slots := 0, locals := 0 }
set_option maxHeartbeats 4000000 in
set_option maxRecDepth 100000 in
theorem k_X10_isDigit (l : Launch) (E : cE) (c9 : Nat) (hc : c9 < 256) : cM l E yX10_isDigit cX10_isDigit 1 (some .boolean) rm_k_X10_isDigit [.int (nI c9)] [] (qI E (fun (r : Int32) (_u : Unit) => r = nI (isDig c9).toNat) (fun _ => [])) := by
  refine cM_of (by decide) (Nat.le_of_ble_eq_true rfl) ?_
  intro p e s m below meth c ls A F hA hS hP hD hK hZ hl
  obtain ⟨hx, hb, hr, hml, hown, hts, hlk, hin⟩ := id F
  have hown : s.vm.findClass RX10 = some m.cls := hown
  have hl : lv_has ls 1 [(0, .int (nI c9))] := hl
  refine lv_iload_n hx hb dX10_isDigit_0 rfl (lv_at hl 0 rfl) ?_
  refine lv_bipush (v := nI 48) hx hb dX10_isDigit_1 (by decide) ?_
  refine lv_icmp_lt (tgt := 16) hx hb dX10_isDigit_3 (by decide) (fun c1 => ?_) (fun c1 => ?_)
  · have c1n : c9 < 48 := (nI_ltI (by omega) (by decide)).mp c1
    refine lv_iconst (v := nI 0) hx hb dX10_isDigit_16 (by decide) ?_
    exact cB_ret F hP hD hS hK (by decide) () (by rw [show isDig c9 = false from by unfold isDig; exact decide_eq_false (by omega)]; rfl) [] rfl rfl dX10_isDigit_17 (by decide) (by decide)
  · have c1n : 48 ≤ c9 := Nat.le_of_not_lt (fun h => c1 ((nI_ltI (by omega) (by decide)).mpr h))
    refine lv_iload_n hx hb dX10_isDigit_6 rfl (lv_at hl 0 rfl) ?_
    refine lv_bipush (v := nI 57) hx hb dX10_isDigit_7 (by decide) ?_
    refine lv_icmp_gt (tgt := 16) hx hb dX10_isDigit_9 (by decide) (fun c2 => ?_) (fun c2 => ?_)
    · have c2n : 57 < c9 := (nI_ltI (by decide) (by omega)).mp c2
      refine lv_iconst (v := nI 0) hx hb dX10_isDigit_16 (by decide) ?_
      exact cB_ret F hP hD hS hK (by decide) () (by rw [show isDig c9 = false from by unfold isDig; exact decide_eq_false (by omega)]; rfl) [] rfl rfl dX10_isDigit_17 (by decide) (by decide)
    · have c2n : c9 ≤ 57 := Nat.le_of_not_lt (fun h => c2 ((nI_ltI (by decide) (by omega)).mpr h))
      refine lv_iconst (v := nI 1) hx hb dX10_isDigit_12 (by decide) ?_
      refine lv_goto (tgt := 17) hx hb dX10_isDigit_13 (by decide) ?_
      exact cB_ret F hP hD hS hK (by decide) () (by rw [show isDig c9 = true from by unfold isDig; exact decide_eq_true (by omega)]; rfl) [] rfl rfl dX10_isDigit_17 (by decide) (by decide)
theorem yy_X10_isDigit : cY yX10_isDigit cX10_isDigit 1 (some .boolean) 1 := ⟨wdK_X10_isDigit, wdZ_RX10, by decide +kernel⟩
theorem dX12_isDigit_0 : decode cX12_isDigit 0 = .ok (.iload_n 0, 1) := by decide +kernel
theorem dX12_isDigit_1 : decode cX12_isDigit 1 = .ok (.bipush 48, 2) := by decide +kernel
theorem dX12_isDigit_3 : decode cX12_isDigit 3 = .ok (.if_icmp .lt 13, 3) := by decide +kernel
theorem dX12_isDigit_6 : decode cX12_isDigit 6 = .ok (.iload_n 0, 1) := by decide +kernel
theorem dX12_isDigit_7 : decode cX12_isDigit 7 = .ok (.bipush 57, 2) := by decide +kernel
theorem dX12_isDigit_9 : decode cX12_isDigit 9 = .ok (.if_icmp .gt 7, 3) := by decide +kernel
theorem dX12_isDigit_12 : decode cX12_isDigit 12 = .ok (.iconst 1, 1) := by decide +kernel
theorem dX12_isDigit_13 : decode cX12_isDigit 13 = .ok (.goto 4, 3) := by decide +kernel
theorem dX12_isDigit_16 : decode cX12_isDigit 16 = .ok (.iconst 0, 1) := by decide +kernel
theorem dX12_isDigit_17 : decode cX12_isDigit 17 = .ok (.ireturn, 1) := by decide +kernel
abbrev rm_k_X12_isDigit : Room := { frames := 0, cells := 0, slots := 0, locals := 0 }
set_option maxHeartbeats 4000000 in
set_option maxRecDepth 100000 in
theorem k_X12_isDigit (l : Launch) (E : cE) (c9 : Nat) (hc : c9 < 256) : cM l E yX12_isDigit cX12_isDigit 1 (some .boolean) rm_k_X12_isDigit [.int (nI c9)] [] (qI E (fun (r : Int32) (_u : Unit) => r = nI (isDig c9).toNat) (fun _ => [])) := by
  refine cM_of (by decide) (Nat.le_of_ble_eq_true rfl) ?_
  intro p e s m below meth c ls A F hA hS hP hD hK hZ hl
  obtain ⟨hx, hb, hr, hml, hown, hts, hlk, hin⟩ := id F
  have hown : s.vm.findClass RX12 = some m.cls := hown
  have hl : lv_has ls 1 [(0, .int (nI c9))] := hl
  refine lv_iload_n hx hb dX12_isDigit_0 rfl (lv_at hl 0 rfl) ?_
  refine lv_bipush (v := nI 48) hx hb dX12_isDigit_1 (by decide) ?_
  refine lv_icmp_lt (tgt := 16) hx hb dX12_isDigit_3 (by decide) (fun c1 => ?_) (fun c1 => ?_)
  · have c1n : c9 < 48 := (nI_ltI (by omega) (by decide)).mp c1
    refine lv_iconst (v := nI 0) hx hb dX12_isDigit_16 (by decide) ?_
    exact cB_ret F hP hD hS hK (by decide) () (by rw [show isDig c9 = false from by unfold isDig; exact decide_eq_false (by omega)]; rfl) [] rfl rfl dX12_isDigit_17 (by decide) (by decide)
  · have c1n : 48 ≤ c9 := Nat.le_of_not_lt (fun h => c1 ((nI_ltI (by omega) (by decide)).mpr h))
    refine lv_iload_n hx hb dX12_isDigit_6 rfl (lv_at hl 0 rfl) ?_
    refine lv_bipush (v := nI 57) hx hb dX12_isDigit_7 (by decide) ?_
    refine lv_icmp_gt (tgt := 16) hx hb dX12_isDigit_9 (by decide) (fun c2 => ?_) (fun c2 => ?_)
    · have c2n : 57 < c9 := (nI_ltI (by decide) (by omega)).mp c2
      refine lv_iconst (v := nI 0) hx hb dX12_isDigit_16 (by decide) ?_
      exact cB_ret F hP hD hS hK (by decide) () (by rw [show isDig c9 = false from by unfold isDig; exact decide_eq_false (by omega)]; rfl) [] rfl rfl dX12_isDigit_17 (by decide) (by decide)
    · have c2n : c9 ≤ 57 := Nat.le_of_not_lt (fun h => c2 ((nI_ltI (by decide) (by omega)).mpr h))
      refine lv_iconst (v := nI 1) hx hb dX12_isDigit_12 (by decide) ?_
      refine lv_goto (tgt := 17) hx hb dX12_isDigit_13 (by decide) ?_
      exact cB_ret F hP hD hS hK (by decide) () (by rw [show isDig c9 = true from by unfold isDig; exact decide_eq_true (by omega)]; rfl) [] rfl rfl dX12_isDigit_17 (by decide) (by decide)
theorem yy_X12_isDigit : cY yX12_isDigit cX12_isDigit 1 (some .boolean) 1 := ⟨wdK_X12_isDigit, wdZ_RX12, by decide +kernel⟩
theorem dX10_byteAt_0 : decode cX10_byteAt 0 = .ok (.iload_n 1, 1) := by decide +kernel
theorem dX10_byteAt_1 : decode cX10_byteAt 1 = .ok (.ifCond .lt 24, 3) := by decide +kernel
theorem dX10_byteAt_4 : decode cX10_byteAt 4 = .ok (.iload_n 1, 1) := by decide +kernel
theorem dX10_byteAt_5 : decode cX10_byteAt 5 = .ok (.aload_n 0, 1) := by decide +kernel
theorem dX10_byteAt_6 : decode cX10_byteAt 6 = .ok (.getfield 44, 3) := by decide +kernel
theorem dX10_byteAt_9 : decode cX10_byteAt 9 = .ok (.if_icmp .ge 16, 3) := by decide +kernel
theorem dX10_byteAt_12 : decode cX10_byteAt 12 = .ok (.aload_n 0, 1) := by decide +kernel
theorem dX10_byteAt_13 : decode cX10_byteAt 13 = .ok (.getfield 9, 3) := by decide +kernel
theorem dX10_byteAt_16 : decode cX10_byteAt 16 = .ok (.iload_n 1, 1) := by decide +kernel
theorem dX10_byteAt_17 : decode cX10_byteAt 17 = .ok (.baload, 1) := by decide +kernel
theorem dX10_byteAt_18 : decode cX10_byteAt 18 = .ok (.sipush 255, 3) := by decide +kernel
theorem dX10_byteAt_21 : decode cX10_byteAt 21 = .ok (.iand, 1) := by decide +kernel
theorem dX10_byteAt_22 : decode cX10_byteAt 22 = .ok (.goto 4, 3) := by decide +kernel
theorem dX10_byteAt_25 : decode cX10_byteAt 25 = .ok (.iconst 0, 1) := by decide +kernel
theorem dX10_byteAt_26 : decode cX10_byteAt 26 = .ok (.ireturn, 1) := by decide +kernel
abbrev rm_k_X10_byteAt : Room := { frames := 0, cells := 0, slots := 0, locals := 0 }
set_option maxHeartbeats 4000000 in
set_option maxRecDepth 100000 in
theorem k_X10_byteAt (l : Launch) (E : cE) (h0 : Nat) (t0 : Nat) (t2 : Nat) (t3 : Nat) (t4 : Nat) (t5 : Nat) (t6 : Nat) (n : Nat) (cn : Int32) (f : Nat → Int32) (B : Nat → Nat) (p9 : Nat) (hn : n ≤ 4096) (ht : txt B n f) (hp : p9 ≤ 4096) : cM l E yX10_byteAt cX10_byteAt 2 (some .int) rm_k_X10_byteAt [.ref h0, .int (nI p9)] [(h0, ob 10 [.ref t0, .int (nI n), .ref t2, .ref t3, .ref t4, .ref t5, .ref t6, .int cn]), (t0, aB E 4096 f)] (qI E (fun (r : Int32) (_u : Unit) => r = nI (if p9 < n then B p9 else 0)) (fun _ => [(h0, ob 10 [.ref t0, .int (nI n), .ref t2, .ref t3, .ref t4, .ref t5, .ref t6, .int cn]), (t0, aB E 4096 f)])) := by
  refine cM_of (by decide) (Nat.le_of_ble_eq_true rfl) ?_
  intro p e s m below meth c ls A F hA hS hP hD hK hZ hl
  obtain ⟨hx, hb, hr, hml, hown, hts, hlk, hin⟩ := id F
  have hown : s.vm.findClass RX10 = some m.cls := hown
  have hl : lv_has ls 2 [(0, .ref h0), (1, .int (nI p9))] := hl
  refine lv_iload_n hx hb dX10_byteAt_0 rfl (lv_at hl 1 rfl) ?_
  refine lv_if_lt (tgt := 25) hx hb dX10_byteAt_1 (by decide) (fun c_1 => absurd c_1 (nI_pos (by omega))) (fun c_1 => ?_)
  refine lv_iload_n hx hb dX10_byteAt_4 rfl (lv_at hl 1 rfl) ?_
  refine lv_aload_n hx hb dX10_byteAt_5 rfl (lv_at hl 0 rfl) ?_
  refine va_get (D := E.1) (ci := 10) (v := .int (nI n)) (C := RX10) (T := TX10) (N := 8) hx hb hts iX10 hown hK hP 0 rfl rfl 1 (by decide) (hts _ wdF_RX10_44) (fun _ h9 => h9) rfl dX10_byteAt_6 ?_
  refine lv_icmp_ge (tgt := 25) hx hb dX10_byteAt_9 (by decide) (fun c1 => ?_) (fun c1 => ?_)
  · have c2 : n ≤ p9 := (nI_leI (by omega) (by omega)).mp c1
    refine lv_iconst (v := nI 0) hx hb dX10_byteAt_25 (by decide) ?_
    exact cI_ret F hP hD hS hK () (by rw [if_neg (by omega)]) [0, 1] rfl rfl dX10_byteAt_26 (by decide) (by decide)
  · have c2 : p9 < n := Nat.lt_of_not_le (fun h => c1 (nI_le h (by omega)))
    refine lv_aload_n hx hb dX10_byteAt_12 rfl (lv_at hl 0 rfl) ?_
    refine va_get (D := E.1) (ci := 10) (v := .ref t0) (C := RX10) (T := TX10) (N := 8) hx hb hts iX10 hown hK hP 0 rfl rfl 0 (by decide) (hts _ wdF_RX10_9) (fun _ h9 => h9) rfl dX10_byteAt_13 ?_
    refine lv_iload_n hx hb dX10_byteAt_16 rfl (lv_at hl 1 rfl) ?_
    refine va_bald hx hb hK hP 1 0 rfl rfl (vp_in_nI (by omega) (by decide)) dX10_byteAt_17 ?_
    rw [nI_clamp (n := p9) (by omega)]
    refine lv_sipush (v := nI 255) hx hb dX10_byteAt_18 (by decide) ?_
    refine lv_iand hx hb dX10_byteAt_21 ?_
    refine lv_goto (tgt := 26) hx hb dX10_byteAt_22 (by decide) ?_
    exact cI_ret F hP hD hS hK () (by rw [if_pos c2]; exact (ht p9 c2).2) [0, 1] rfl rfl dX10_byteAt_26 (by decide) (by decide)
theorem yy_X10_byteAt : cY yX10_byteAt cX10_byteAt 2 (some .int) 1 := ⟨wdK_X10_byteAt, wdZ_RX10, by decide +kernel⟩
theorem yi_X10_byteAt : cYi yX10_byteAt := ⟨wdN_X10_byteAt, wdS_X10_byteAt⟩
abbrev rm_k_X10_skipBlanks : Room := { frames := 1, cells := 0, slots := 0, locals := 21 }
set_option maxHeartbeats 4000000 in
set_option maxRecDepth 100000 in
theorem k_X10_skipBlanks (l : Launch) (E : cE) (h0 : Nat) (t0 : Nat) (t2 : Nat) (t3 : Nat) (t4 : Nat) (t5 : Nat) (t6 : Nat) (n : Nat) (cn : Int32) (f : Nat → Int32) (B : Nat → Nat) (p9 : Nat) (hn : n ≤ 4096) (ht : txt B n f) (hp : p9 ≤ n) : cM l E yX10_skipBlanks cX10_skipBlanks 6 (some .int) rm_k_X10_skipBlanks [.ref h0, .int (nI p9)] [(h0, ob 10 [.ref t0, .int (nI n), .ref t2, .ref t3, .ref t4, .ref t5, .ref t6, .int cn]), (t0, aB E 4096 f)] (qI E (fun (r : Int32) (_u : Unit) => r = nI (skC B n (n + 1 - p9) false p9)) (fun _ => [(h0, ob 10 [.ref t0, .int (nI n), .ref t2, .ref t3, .ref t4, .ref t5, .ref t6, .int cn]), (t0, aB E 4096 f)])) := by
  refine cM_of (by decide) (Nat.le_of_ble_eq_true rfl) ?_
  intro p e s m below meth c ls A F hA hS hP hD hK hZ hl
  obtain ⟨hx, hb, hr, hml, hown, hts, hlk, hin⟩ := id F
  have hown : s.vm.findClass RX10 = some m.cls := hown
  have hl : lv_has ls 6 [(0, .ref h0), (1, .int (nI p9))] := hl
  refine lv_iconst (v := nI 0) hx hb dX10_skipBlanks_0 (by decide) ?_
  refine lv_istore_n (lv' := [(2, .int (nI 0)), (0, .ref h0), (1, .int (nI p9))]) hx hb dX10_skipBlanks_1 rfl hl (by decide) rfl (fun ls hl => ?_)
  refine lv_iload_n hx hb dX10_skipBlanks_2 rfl (lv_at hl 2 rfl) ?_
  refine lv_istore_n (lv' := [(3, .int (nI p9)), (2, .int (nI 0)), (0, .ref h0), (1, .int (nI p9))]) hx hb dX10_skipBlanks_3 rfl hl (by decide) rfl (fun ls hl => ?_)
  have lp : ∀ (n_lp : Nat) (i : Nat) (rm : Bool) (hf : n + 1 ≤ i + n_lp) (hi : i ≤ n) (hE : skC B n (n + 1 - i) rm i = skC B n (n + 1 - p9) false p9) (H : Heap) (locs : List Loc) (ls : Array Slot), va_P E.1 vwCl [(h0, ob 10 [.ref t0, .int (nI n), .ref t2, .ref t3, .ref t4, .ref t5, .ref t6, .int cn]), (t0, aB E 4096 f)] H → va_D A [(h0, ob 10 [.ref t0, .int (nI n), .ref t2, .ref t3, .ref t4, .ref t5, .ref t6, .int cn]), (t0, aB E 4096 f)] → va_S A s.heap H locs → lv_has ls 6 [(0, .ref h0), (1, .int (nI p9)), (2, .int (nI rm.toNat)), (3, .int (nI i))] → W p l e rm_k_X10_skipBlanks s m ([.ref h0, .int (nI p9)] : List Value).toArray below meth c H locs 0 0 (MQ below ((qI E (fun (r : Int32) (_u : Unit) => r = nI (skC B n (n + 1 - p9) false p9)) (fun _ => [(h0, ob 10 [.ref t0, .int (nI n), .ref t2, .ref t3, .ref t4, .ref t5, .ref t6, .int cn]), (t0, aB E 4096 f)])) A) ([.ref h0, .int (nI p9)] : List Value).toArray s (rm_k_X10_skipBlanks).cells (rm_k_X10_skipBlanks).slots A) (F0 m 4 ls []) := by
    intro n_lp
    induction n_lp with
    | zero =>
      intro i rm hf hi hE
      exfalso; omega
    | succ n_lp ih_lp =>
      intro i rm hf hi hE H locs ls hP hD hS hl
      refine lv_iload_n hx hb dX10_skipBlanks_4 rfl (lv_at hl 3 rfl) ?_
      refine lv_aload_n hx hb dX10_skipBlanks_5 rfl (lv_at hl 0 rfl) ?_
      refine va_get (D := E.1) (ci := 10) (v := .int (nI n)) (C := RX10) (T := TX10) (N := 8) hx hb hts iX10 hown hK hP 0 rfl rfl 1 (by decide) (hts _ wdF_RX10_44) (fun _ h9 => h9) rfl dX10_skipBlanks_6 ?_
      refine lv_icmp_ge (tgt := 95) hx hb dX10_skipBlanks_9 (by decide) (fun c1 => ?_) (fun c1 => ?_)
      · have c2 : n ≤ i := (nI_leI (by omega) (by omega)).mp c1
        have h9 : n + 1 - i = (n - i) + 1 := by omega
        refine lv_aload_n hx hb dX10_skipBlanks_95 rfl (lv_at hl 0 rfl) ?_
        refine va_get (D := E.1) (ci := 10) (v := .int (nI n)) (C := RX10) (T := TX10) (N := 8) hx hb hts iX10 hown hK hP 0 rfl rfl 1 (by decide) (hts _ wdF_RX10_44) (fun _ h9 => h9) rfl dX10_skipBlanks_96 ?_
        exact cI_ret F hP hD hS hK () (by rw [← hE, h9]; show nI n = nI (if n ≤ i then n else _); rw [if_pos c2]) [0, 1] rfl rfl dX10_skipBlanks_99 (by decide) (by decide)
      · have c2 : i < n := Nat.lt_of_not_le (fun h => c1 (nI_le h (by omega)))
        have h9 : n + 1 - i = (n - i) + 1 := by omega
        have hB := (ht i c2).1
        have hU : skC B n (n + 1 - i) rm i = if B i = 35 then skC B n (n - i) true (i + 1) else if B i = 10 then skC B n (n - i) false (i + 1) else if isBlk (B i) = false ∧ rm = false then i else skC B n (n - i) rm (i + 1) := by rw [h9]; show (if n ≤ i then n else _) = _; rw [if_neg (by omega)]
        rw [hU] at hE
        refine lv_aload_n hx hb dX10_skipBlanks_12 rfl (lv_at hl 0 rfl) ?_
        refine lv_iload_n hx hb dX10_skipBlanks_13 rfl (lv_at hl 3 rfl) ?_
        refine cI_go (wr := []) (cM_runV (As := [.int (nI i)]) (rest := []) F (k_X10_byteAt l E h0 t0 t2 t3 t4 t5 t6 n cn f B i hn ht (by omega)) yy_X10_byteAt yi_X10_byteAt wdM_RX10_62 hP hD hS hK hZ hA [0, 1] rfl rfl 0 10 rfl rfl rfl hl.1 rfl (Nat.le_of_ble_eq_true rfl) dX10_skipBlanks_14 ⟨by decide, by decide⟩ ⟨by decide, by decide⟩) hP hD hS hA [0, 1] [] rfl rfl rfl (by decide) (fun r_4 u_3 H locs hw_2 hP hD hS => ?_)
        try dsimp only at hw_2
        have hP : va_P E.1 vwCl [(h0, ob 10 [.ref t0, .int (nI n), .ref t2, .ref t3, .ref t4, .ref t5, .ref t6, .int cn]), (t0, aB E 4096 f)] H := hP
        have hD : va_D A [(h0, ob 10 [.ref t0, .int (nI n), .ref t2, .ref t3, .ref t4, .ref t5, .ref t6, .int cn]), (t0, aB E 4096 f)] := hD
        rw [if_pos c2] at hw_2
        subst hw_2
        refine lv_istore (lv' := [(4, .int (nI (B i))), (0, .ref h0), (1, .int (nI p9)), (2, .int (nI rm.toNat)), (3, .int (nI i))]) hx hb dX10_skipBlanks_17 hl (by decide) rfl (fun ls hl => ?_)
        refine lv_iload hx hb dX10_skipBlanks_19 (lv_at hl 0 rfl) ?_
        refine lv_bipush (v := nI 9) hx hb dX10_skipBlanks_21 (by decide) ?_
        refine lv_icmp_eq (tgt := 47) hx hb dX10_skipBlanks_23 (by decide) (fun b0 => ?_) (fun b0 => ?_)
        · have b0n : B i = 9 := (nI_eq (by omega) (by decide)).mp b0
          have hbl : isBlk (B i) = true := by unfold isBlk; exact decide_eq_true (by omega)
          refine lv_iconst (v := nI 1) hx hb dX10_skipBlanks_47 (by decide) ?_
          refine lv_goto (tgt := 52) hx hb dX10_skipBlanks_48 (by decide) ?_
          refine lv_istore (lv' := [(5, .int (nI 1)), (4, .int (nI (B i))), (0, .ref h0), (1, .int (nI p9)), (2, .int (nI rm.toNat)), (3, .int (nI i))]) hx hb dX10_skipBlanks_52 hl (by decide) rfl (fun ls hl => ?_)
          refine lv_iload hx hb dX10_skipBlanks_54 (lv_at hl 1 rfl) ?_
          refine lv_bipush (v := nI 35) hx hb dX10_skipBlanks_56 (by decide) ?_
          refine lv_icmp_ne (tgt := 66) hx hb dX10_skipBlanks_58 (by decide) (fun d1 => ?_) (fun d1 => ?_)
          · have d1n : ¬ B i = 35 := fun h => d1 (by rw [h])
            refine lv_iload hx hb dX10_skipBlanks_66 (lv_at hl 1 rfl) ?_
            refine lv_bipush (v := nI 10) hx hb dX10_skipBlanks_68 (by decide) ?_
            refine lv_icmp_ne (tgt := 78) hx hb dX10_skipBlanks_70 (by decide) (fun d2 => ?_) (fun d2 => ?_)
            · have d2n : ¬ B i = 10 := fun h => d2 (by rw [h])
              refine lv_iload hx hb dX10_skipBlanks_78 (lv_at hl 0 rfl) ?_
              refine lv_if_ne (tgt := 89) hx hb dX10_skipBlanks_80 (by decide) (fun c_5 => ?_) (fun c_5 => absurd c_5 (by decide))
              refine lv_iinc (v := nI (i + 1)) (lv' := [(3, .int (nI (i + 1))), (5, .int (nI 1)), (4, .int (nI (B i))), (0, .ref h0), (1, .int (nI p9)), (2, .int (nI rm.toNat))]) hx hb dX10_skipBlanks_89 hl (k := 5) rfl (nI_1 i) (by decide) rfl (fun ls hl => ?_)
              refine lv_goto (tgt := 4) hx hb dX10_skipBlanks_92 (by decide) ?_
              exact ih_lp (i + 1) rm (by omega) (by omega) (by rw [← hE, if_neg d1n, if_neg d2n, if_neg (fun h => absurd (hbl.symm.trans h.1) (by decide)), show n + 1 - (i + 1) = n - i by omega]) _ _ _ hP hD hS (lv_sub hl [3, 4, 5, 0] rfl)
            · have d2n : B i = 10 := (nI_eq (by omega) (by decide)).mp d2
              refine lv_iconst (v := nI 0) hx hb dX10_skipBlanks_73 (by decide) ?_
              refine lv_istore_n (lv' := [(2, .int (nI 0)), (5, .int (nI 1)), (4, .int (nI (B i))), (0, .ref h0), (1, .int (nI p9)), (3, .int (nI i))]) hx hb dX10_skipBlanks_74 rfl hl (by decide) rfl (fun ls hl => ?_)
              refine lv_goto (tgt := 89) hx hb dX10_skipBlanks_75 (by decide) ?_
              refine lv_iinc (v := nI (i + 1)) (lv' := [(3, .int (nI (i + 1))), (2, .int (nI 0)), (5, .int (nI 1)), (4, .int (nI (B i))), (0, .ref h0), (1, .int (nI p9))]) hx hb dX10_skipBlanks_89 hl (k := 5) rfl (nI_1 i) (by decide) rfl (fun ls hl => ?_)
              refine lv_goto (tgt := 4) hx hb dX10_skipBlanks_92 (by decide) ?_
              exact ih_lp (i + 1) false (by omega) (by omega) (by rw [← hE, if_neg d1n, if_pos d2n, show n + 1 - (i + 1) = n - i by omega]) _ _ _ hP hD hS (lv_sub hl [4, 5, 1, 0] rfl)
          · have d1n : B i = 35 := (nI_eq (by omega) (by decide)).mp d1
            refine lv_iconst (v := nI 1) hx hb dX10_skipBlanks_61 (by decide) ?_
            refine lv_istore_n (lv' := [(2, .int (nI 1)), (5, .int (nI 1)), (4, .int (nI (B i))), (0, .ref h0), (1, .int (nI p9)), (3, .int (nI i))]) hx hb dX10_skipBlanks_62 rfl hl (by decide) rfl (fun ls hl => ?_)
            refine lv_goto (tgt := 89) hx hb dX10_skipBlanks_63 (by decide) ?_
            refine lv_iinc (v := nI (i + 1)) (lv' := [(3, .int (nI (i + 1))), (2, .int (nI 1)), (5, .int (nI 1)), (4, .int (nI (B i))), (0, .ref h0), (1, .int (nI p9))]) hx hb dX10_skipBlanks_89 hl (k := 5) rfl (nI_1 i) (by decide) rfl (fun ls hl => ?_)
            refine lv_goto (tgt := 4) hx hb dX10_skipBlanks_92 (by decide) ?_
            exact ih_lp (i + 1) true (by omega) (by omega) (by rw [← hE, if_pos d1n, show n + 1 - (i + 1) = n - i by omega]) _ _ _ hP hD hS (lv_sub hl [4, 5, 1, 0] rfl)
        · have b0n : ¬ B i = 9 := fun h => b0 (by rw [h])
          refine lv_iload hx hb dX10_skipBlanks_26 (lv_at hl 0 rfl) ?_
          refine lv_bipush (v := nI 10) hx hb dX10_skipBlanks_28 (by decide) ?_
          refine lv_icmp_eq (tgt := 47) hx hb dX10_skipBlanks_30 (by decide) (fun b1 => ?_) (fun b1 => ?_)
          · have b1n : B i = 10 := (nI_eq (by omega) (by decide)).mp b1
            have hbl : isBlk (B i) = true := by unfold isBlk; exact decide_eq_true (by omega)
            refine lv_iconst (v := nI 1) hx hb dX10_skipBlanks_47 (by decide) ?_
            refine lv_goto (tgt := 52) hx hb dX10_skipBlanks_48 (by decide) ?_
            refine lv_istore (lv' := [(5, .int (nI 1)), (4, .int (nI (B i))), (0, .ref h0), (1, .int (nI p9)), (2, .int (nI rm.toNat)), (3, .int (nI i))]) hx hb dX10_skipBlanks_52 hl (by decide) rfl (fun ls hl => ?_)
            refine lv_iload hx hb dX10_skipBlanks_54 (lv_at hl 1 rfl) ?_
            refine lv_bipush (v := nI 35) hx hb dX10_skipBlanks_56 (by decide) ?_
            refine lv_icmp_ne (tgt := 66) hx hb dX10_skipBlanks_58 (by decide) (fun d1 => ?_) (fun d1 => ?_)
            · have d1n : ¬ B i = 35 := fun h => d1 (by rw [h])
              refine lv_iload hx hb dX10_skipBlanks_66 (lv_at hl 1 rfl) ?_
              refine lv_bipush (v := nI 10) hx hb dX10_skipBlanks_68 (by decide) ?_
              refine lv_icmp_ne (tgt := 78) hx hb dX10_skipBlanks_70 (by decide) (fun d2 => ?_) (fun d2 => ?_)
              · have d2n : ¬ B i = 10 := fun h => d2 (by rw [h])
                refine lv_iload hx hb dX10_skipBlanks_78 (lv_at hl 0 rfl) ?_
                refine lv_if_ne (tgt := 89) hx hb dX10_skipBlanks_80 (by decide) (fun c_6 => ?_) (fun c_6 => absurd c_6 (by decide))
                refine lv_iinc (v := nI (i + 1)) (lv' := [(3, .int (nI (i + 1))), (5, .int (nI 1)), (4, .int (nI (B i))), (0, .ref h0), (1, .int (nI p9)), (2, .int (nI rm.toNat))]) hx hb dX10_skipBlanks_89 hl (k := 5) rfl (nI_1 i) (by decide) rfl (fun ls hl => ?_)
                refine lv_goto (tgt := 4) hx hb dX10_skipBlanks_92 (by decide) ?_
                exact ih_lp (i + 1) rm (by omega) (by omega) (by rw [← hE, if_neg d1n, if_neg d2n, if_neg (fun h => absurd (hbl.symm.trans h.1) (by decide)), show n + 1 - (i + 1) = n - i by omega]) _ _ _ hP hD hS (lv_sub hl [3, 4, 5, 0] rfl)
              · have d2n : B i = 10 := (nI_eq (by omega) (by decide)).mp d2
                refine lv_iconst (v := nI 0) hx hb dX10_skipBlanks_73 (by decide) ?_
                refine lv_istore_n (lv' := [(2, .int (nI 0)), (5, .int (nI 1)), (4, .int (nI (B i))), (0, .ref h0), (1, .int (nI p9)), (3, .int (nI i))]) hx hb dX10_skipBlanks_74 rfl hl (by decide) rfl (fun ls hl => ?_)
                refine lv_goto (tgt := 89) hx hb dX10_skipBlanks_75 (by decide) ?_
                refine lv_iinc (v := nI (i + 1)) (lv' := [(3, .int (nI (i + 1))), (2, .int (nI 0)), (5, .int (nI 1)), (4, .int (nI (B i))), (0, .ref h0), (1, .int (nI p9))]) hx hb dX10_skipBlanks_89 hl (k := 5) rfl (nI_1 i) (by decide) rfl (fun ls hl => ?_)
                refine lv_goto (tgt := 4) hx hb dX10_skipBlanks_92 (by decide) ?_
                exact ih_lp (i + 1) false (by omega) (by omega) (by rw [← hE, if_neg d1n, if_pos d2n, show n + 1 - (i + 1) = n - i by omega]) _ _ _ hP hD hS (lv_sub hl [4, 5, 1, 0] rfl)
            · have d1n : B i = 35 := (nI_eq (by omega) (by decide)).mp d1
              refine lv_iconst (v := nI 1) hx hb dX10_skipBlanks_61 (by decide) ?_
              refine lv_istore_n (lv' := [(2, .int (nI 1)), (5, .int (nI 1)), (4, .int (nI (B i))), (0, .ref h0), (1, .int (nI p9)), (3, .int (nI i))]) hx hb dX10_skipBlanks_62 rfl hl (by decide) rfl (fun ls hl => ?_)
              refine lv_goto (tgt := 89) hx hb dX10_skipBlanks_63 (by decide) ?_
              refine lv_iinc (v := nI (i + 1)) (lv' := [(3, .int (nI (i + 1))), (2, .int (nI 1)), (5, .int (nI 1)), (4, .int (nI (B i))), (0, .ref h0), (1, .int (nI p9))]) hx hb dX10_skipBlanks_89 hl (k := 5) rfl (nI_1 i) (by decide) rfl (fun ls hl => ?_)
              refine lv_goto (tgt := 4) hx hb dX10_skipBlanks_92 (by decide) ?_
              exact ih_lp (i + 1) true (by omega) (by omega) (by rw [← hE, if_pos d1n, show n + 1 - (i + 1) = n - i by omega]) _ _ _ hP hD hS (lv_sub hl [4, 5, 1, 0] rfl)
          · have b1n : ¬ B i = 10 := fun h => b1 (by rw [h])
            refine lv_iload hx hb dX10_skipBlanks_33 (lv_at hl 0 rfl) ?_
            refine lv_bipush (v := nI 13) hx hb dX10_skipBlanks_35 (by decide) ?_
            refine lv_icmp_eq (tgt := 47) hx hb dX10_skipBlanks_37 (by decide) (fun b2 => ?_) (fun b2 => ?_)
            · have b2n : B i = 13 := (nI_eq (by omega) (by decide)).mp b2
              have hbl : isBlk (B i) = true := by unfold isBlk; exact decide_eq_true (by omega)
              refine lv_iconst (v := nI 1) hx hb dX10_skipBlanks_47 (by decide) ?_
              refine lv_goto (tgt := 52) hx hb dX10_skipBlanks_48 (by decide) ?_
              refine lv_istore (lv' := [(5, .int (nI 1)), (4, .int (nI (B i))), (0, .ref h0), (1, .int (nI p9)), (2, .int (nI rm.toNat)), (3, .int (nI i))]) hx hb dX10_skipBlanks_52 hl (by decide) rfl (fun ls hl => ?_)
              refine lv_iload hx hb dX10_skipBlanks_54 (lv_at hl 1 rfl) ?_
              refine lv_bipush (v := nI 35) hx hb dX10_skipBlanks_56 (by decide) ?_
              refine lv_icmp_ne (tgt := 66) hx hb dX10_skipBlanks_58 (by decide) (fun d1 => ?_) (fun d1 => ?_)
              · have d1n : ¬ B i = 35 := fun h => d1 (by rw [h])
                refine lv_iload hx hb dX10_skipBlanks_66 (lv_at hl 1 rfl) ?_
                refine lv_bipush (v := nI 10) hx hb dX10_skipBlanks_68 (by decide) ?_
                refine lv_icmp_ne (tgt := 78) hx hb dX10_skipBlanks_70 (by decide) (fun d2 => ?_) (fun d2 => ?_)
                · have d2n : ¬ B i = 10 := fun h => d2 (by rw [h])
                  refine lv_iload hx hb dX10_skipBlanks_78 (lv_at hl 0 rfl) ?_
                  refine lv_if_ne (tgt := 89) hx hb dX10_skipBlanks_80 (by decide) (fun c_7 => ?_) (fun c_7 => absurd c_7 (by decide))
                  refine lv_iinc (v := nI (i + 1)) (lv' := [(3, .int (nI (i + 1))), (5, .int (nI 1)), (4, .int (nI (B i))), (0, .ref h0), (1, .int (nI p9)), (2, .int (nI rm.toNat))]) hx hb dX10_skipBlanks_89 hl (k := 5) rfl (nI_1 i) (by decide) rfl (fun ls hl => ?_)
                  refine lv_goto (tgt := 4) hx hb dX10_skipBlanks_92 (by decide) ?_
                  exact ih_lp (i + 1) rm (by omega) (by omega) (by rw [← hE, if_neg d1n, if_neg d2n, if_neg (fun h => absurd (hbl.symm.trans h.1) (by decide)), show n + 1 - (i + 1) = n - i by omega]) _ _ _ hP hD hS (lv_sub hl [3, 4, 5, 0] rfl)
                · have d2n : B i = 10 := (nI_eq (by omega) (by decide)).mp d2
                  refine lv_iconst (v := nI 0) hx hb dX10_skipBlanks_73 (by decide) ?_
                  refine lv_istore_n (lv' := [(2, .int (nI 0)), (5, .int (nI 1)), (4, .int (nI (B i))), (0, .ref h0), (1, .int (nI p9)), (3, .int (nI i))]) hx hb dX10_skipBlanks_74 rfl hl (by decide) rfl (fun ls hl => ?_)
                  refine lv_goto (tgt := 89) hx hb dX10_skipBlanks_75 (by decide) ?_
                  refine lv_iinc (v := nI (i + 1)) (lv' := [(3, .int (nI (i + 1))), (2, .int (nI 0)), (5, .int (nI 1)), (4, .int (nI (B i))), (0, .ref h0), (1, .int (nI p9))]) hx hb dX10_skipBlanks_89 hl (k := 5) rfl (nI_1 i) (by decide) rfl (fun ls hl => ?_)
                  refine lv_goto (tgt := 4) hx hb dX10_skipBlanks_92 (by decide) ?_
                  exact ih_lp (i + 1) false (by omega) (by omega) (by rw [← hE, if_neg d1n, if_pos d2n, show n + 1 - (i + 1) = n - i by omega]) _ _ _ hP hD hS (lv_sub hl [4, 5, 1, 0] rfl)
              · have d1n : B i = 35 := (nI_eq (by omega) (by decide)).mp d1
                refine lv_iconst (v := nI 1) hx hb dX10_skipBlanks_61 (by decide) ?_
                refine lv_istore_n (lv' := [(2, .int (nI 1)), (5, .int (nI 1)), (4, .int (nI (B i))), (0, .ref h0), (1, .int (nI p9)), (3, .int (nI i))]) hx hb dX10_skipBlanks_62 rfl hl (by decide) rfl (fun ls hl => ?_)
                refine lv_goto (tgt := 89) hx hb dX10_skipBlanks_63 (by decide) ?_
                refine lv_iinc (v := nI (i + 1)) (lv' := [(3, .int (nI (i + 1))), (2, .int (nI 1)), (5, .int (nI 1)), (4, .int (nI (B i))), (0, .ref h0), (1, .int (nI p9))]) hx hb dX10_skipBlanks_89 hl (k := 5) rfl (nI_1 i) (by decide) rfl (fun ls hl => ?_)
                refine lv_goto (tgt := 4) hx hb dX10_skipBlanks_92 (by decide) ?_
                exact ih_lp (i + 1) true (by omega) (by omega) (by rw [← hE, if_pos d1n, show n + 1 - (i + 1) = n - i by omega]) _ _ _ hP hD hS (lv_sub hl [4, 5, 1, 0] rfl)
            · have b2n : ¬ B i = 13 := fun h => b2 (by rw [h])
              refine lv_iload hx hb dX10_skipBlanks_40 (lv_at hl 0 rfl) ?_
              refine lv_bipush (v := nI 32) hx hb dX10_skipBlanks_42 (by decide) ?_
              refine lv_icmp_ne (tgt := 51) hx hb dX10_skipBlanks_44 (by decide) (fun b3 => ?_) (fun b3 => ?_)
              · have b3n : ¬ B i = 32 := fun h => b3 (by rw [h])
                have hbl : isBlk (B i) = false := by unfold isBlk; exact decide_eq_false (by omega)
                refine lv_iconst (v := nI 0) hx hb dX10_skipBlanks_51 (by decide) ?_
                refine lv_istore (lv' := [(5, .int (nI 0)), (4, .int (nI (B i))), (0, .ref h0), (1, .int (nI p9)), (2, .int (nI rm.toNat)), (3, .int (nI i))]) hx hb dX10_skipBlanks_52 hl (by decide) rfl (fun ls hl => ?_)
                refine lv_iload hx hb dX10_skipBlanks_54 (lv_at hl 1 rfl) ?_
                refine lv_bipush (v := nI 35) hx hb dX10_skipBlanks_56 (by decide) ?_
                refine lv_icmp_ne (tgt := 66) hx hb dX10_skipBlanks_58 (by decide) (fun d1 => ?_) (fun d1 => ?_)
                · have d1n : ¬ B i = 35 := fun h => d1 (by rw [h])
                  refine lv_iload hx hb dX10_skipBlanks_66 (lv_at hl 1 rfl) ?_
                  refine lv_bipush (v := nI 10) hx hb dX10_skipBlanks_68 (by decide) ?_
                  refine lv_icmp_ne (tgt := 78) hx hb dX10_skipBlanks_70 (by decide) (fun d2 => ?_) (fun d2 => ?_)
                  · have d2n : ¬ B i = 10 := fun h => d2 (by rw [h])
                    refine lv_iload hx hb dX10_skipBlanks_78 (lv_at hl 0 rfl) ?_
                    refine lv_if_ne (tgt := 89) hx hb dX10_skipBlanks_80 (by decide) (fun c_9 => absurd (by decide) c_9) (fun c_9 => ?_)
                    refine lv_iload_n hx hb dX10_skipBlanks_83 rfl (lv_at hl 4 rfl) ?_
                    refine lv_if_ne (tgt := 89) hx hb dX10_skipBlanks_84 (by decide) (fun d3 => ?_) (fun d3 => ?_)
                    · have hr : rm = true := by cases rm; exact absurd rfl d3; rfl
                      refine lv_iinc (v := nI (i + 1)) (lv' := [(3, .int (nI (i + 1))), (5, .int (nI 0)), (4, .int (nI (B i))), (0, .ref h0), (1, .int (nI p9)), (2, .int (nI rm.toNat))]) hx hb dX10_skipBlanks_89 hl (k := 5) rfl (nI_1 i) (by decide) rfl (fun ls hl => ?_)
                      refine lv_goto (tgt := 4) hx hb dX10_skipBlanks_92 (by decide) ?_
                      exact ih_lp (i + 1) rm (by omega) (by omega) (by rw [← hE, if_neg d1n, if_neg d2n, if_neg (fun h => absurd (hr.symm.trans h.2) (by decide)), show n + 1 - (i + 1) = n - i by omega]) _ _ _ hP hD hS (lv_sub hl [3, 4, 5, 0] rfl)
                    · have hr : rm = false := by cases rm; rfl; exact absurd d3 (by decide)
                      refine lv_iload_n hx hb dX10_skipBlanks_87 rfl (lv_at hl 5 rfl) ?_
                      exact cI_ret F hP hD hS hK () (by rw [← hE, if_neg d1n, if_neg d2n, if_pos ⟨hbl, hr⟩]) [0, 1] rfl rfl dX10_skipBlanks_88 (by decide) (by decide)
                  · have d2n : B i = 10 := (nI_eq (by omega) (by decide)).mp d2
                    refine lv_iconst (v := nI 0) hx hb dX10_skipBlanks_73 (by decide) ?_
                    refine lv_istore_n (lv' := [(2, .int (nI 0)), (5, .int (nI 0)), (4, .int (nI (B i))), (0, .ref h0), (1, .int (nI p9)), (3, .int (nI i))]) hx hb dX10_skipBlanks_74 rfl hl (by decide) rfl (fun ls hl => ?_)
                    refine lv_goto (tgt := 89) hx hb dX10_skipBlanks_75 (by decide) ?_
                    refine lv_iinc (v := nI (i + 1)) (lv' := [(3, .int (nI (i + 1))), (2, .int (nI 0)), (5, .int (nI 0)), (4, .int (nI (B i))), (0, .ref h0), (1, .int (nI p9))]) hx hb dX10_skipBlanks_89 hl (k := 5) rfl (nI_1 i) (by decide) rfl (fun ls hl => ?_)
                    refine lv_goto (tgt := 4) hx hb dX10_skipBlanks_92 (by decide) ?_
                    exact ih_lp (i + 1) false (by omega) (by omega) (by rw [← hE, if_neg d1n, if_pos d2n, show n + 1 - (i + 1) = n - i by omega]) _ _ _ hP hD hS (lv_sub hl [4, 5, 1, 0] rfl)
                · have d1n : B i = 35 := (nI_eq (by omega) (by decide)).mp d1
                  refine lv_iconst (v := nI 1) hx hb dX10_skipBlanks_61 (by decide) ?_
                  refine lv_istore_n (lv' := [(2, .int (nI 1)), (5, .int (nI 0)), (4, .int (nI (B i))), (0, .ref h0), (1, .int (nI p9)), (3, .int (nI i))]) hx hb dX10_skipBlanks_62 rfl hl (by decide) rfl (fun ls hl => ?_)
                  refine lv_goto (tgt := 89) hx hb dX10_skipBlanks_63 (by decide) ?_
                  refine lv_iinc (v := nI (i + 1)) (lv' := [(3, .int (nI (i + 1))), (2, .int (nI 1)), (5, .int (nI 0)), (4, .int (nI (B i))), (0, .ref h0), (1, .int (nI p9))]) hx hb dX10_skipBlanks_89 hl (k := 5) rfl (nI_1 i) (by decide) rfl (fun ls hl => ?_)
                  refine lv_goto (tgt := 4) hx hb dX10_skipBlanks_92 (by decide) ?_
                  exact ih_lp (i + 1) true (by omega) (by omega) (by rw [← hE, if_pos d1n, show n + 1 - (i + 1) = n - i by omega]) _ _ _ hP hD hS (lv_sub hl [4, 5, 1, 0] rfl)
              · have b3n : B i = 32 := (nI_eq (by omega) (by decide)).mp b3
                have hbl : isBlk (B i) = true := by unfold isBlk; exact decide_eq_true (by omega)
                refine lv_iconst (v := nI 1) hx hb dX10_skipBlanks_47 (by decide) ?_
                refine lv_goto (tgt := 52) hx hb dX10_skipBlanks_48 (by decide) ?_
                refine lv_istore (lv' := [(5, .int (nI 1)), (4, .int (nI (B i))), (0, .ref h0), (1, .int (nI p9)), (2, .int (nI rm.toNat)), (3, .int (nI i))]) hx hb dX10_skipBlanks_52 hl (by decide) rfl (fun ls hl => ?_)
                refine lv_iload hx hb dX10_skipBlanks_54 (lv_at hl 1 rfl) ?_
                refine lv_bipush (v := nI 35) hx hb dX10_skipBlanks_56 (by decide) ?_
                refine lv_icmp_ne (tgt := 66) hx hb dX10_skipBlanks_58 (by decide) (fun d1 => ?_) (fun d1 => ?_)
                · have d1n : ¬ B i = 35 := fun h => d1 (by rw [h])
                  refine lv_iload hx hb dX10_skipBlanks_66 (lv_at hl 1 rfl) ?_
                  refine lv_bipush (v := nI 10) hx hb dX10_skipBlanks_68 (by decide) ?_
                  refine lv_icmp_ne (tgt := 78) hx hb dX10_skipBlanks_70 (by decide) (fun d2 => ?_) (fun d2 => ?_)
                  · have d2n : ¬ B i = 10 := fun h => d2 (by rw [h])
                    refine lv_iload hx hb dX10_skipBlanks_78 (lv_at hl 0 rfl) ?_
                    refine lv_if_ne (tgt := 89) hx hb dX10_skipBlanks_80 (by decide) (fun c_8 => ?_) (fun c_8 => absurd c_8 (by decide))
                    refine lv_iinc (v := nI (i + 1)) (lv' := [(3, .int (nI (i + 1))), (5, .int (nI 1)), (4, .int (nI (B i))), (0, .ref h0), (1, .int (nI p9)), (2, .int (nI rm.toNat))]) hx hb dX10_skipBlanks_89 hl (k := 5) rfl (nI_1 i) (by decide) rfl (fun ls hl => ?_)
                    refine lv_goto (tgt := 4) hx hb dX10_skipBlanks_92 (by decide) ?_
                    exact ih_lp (i + 1) rm (by omega) (by omega) (by rw [← hE, if_neg d1n, if_neg d2n, if_neg (fun h => absurd (hbl.symm.trans h.1) (by decide)), show n + 1 - (i + 1) = n - i by omega]) _ _ _ hP hD hS (lv_sub hl [3, 4, 5, 0] rfl)
                  · have d2n : B i = 10 := (nI_eq (by omega) (by decide)).mp d2
                    refine lv_iconst (v := nI 0) hx hb dX10_skipBlanks_73 (by decide) ?_
                    refine lv_istore_n (lv' := [(2, .int (nI 0)), (5, .int (nI 1)), (4, .int (nI (B i))), (0, .ref h0), (1, .int (nI p9)), (3, .int (nI i))]) hx hb dX10_skipBlanks_74 rfl hl (by decide) rfl (fun ls hl => ?_)
                    refine lv_goto (tgt := 89) hx hb dX10_skipBlanks_75 (by decide) ?_
                    refine lv_iinc (v := nI (i + 1)) (lv' := [(3, .int (nI (i + 1))), (2, .int (nI 0)), (5, .int (nI 1)), (4, .int (nI (B i))), (0, .ref h0), (1, .int (nI p9))]) hx hb dX10_skipBlanks_89 hl (k := 5) rfl (nI_1 i) (by decide) rfl (fun ls hl => ?_)
                    refine lv_goto (tgt := 4) hx hb dX10_skipBlanks_92 (by decide) ?_
                    exact ih_lp (i + 1) false (by omega) (by omega) (by rw [← hE, if_neg d1n, if_pos d2n, show n + 1 - (i + 1) = n - i by omega]) _ _ _ hP hD hS (lv_sub hl [4, 5, 1, 0] rfl)
                · have d1n : B i = 35 := (nI_eq (by omega) (by decide)).mp d1
                  refine lv_iconst (v := nI 1) hx hb dX10_skipBlanks_61 (by decide) ?_
                  refine lv_istore_n (lv' := [(2, .int (nI 1)), (5, .int (nI 1)), (4, .int (nI (B i))), (0, .ref h0), (1, .int (nI p9)), (3, .int (nI i))]) hx hb dX10_skipBlanks_62 rfl hl (by decide) rfl (fun ls hl => ?_)
                  refine lv_goto (tgt := 89) hx hb dX10_skipBlanks_63 (by decide) ?_
                  refine lv_iinc (v := nI (i + 1)) (lv' := [(3, .int (nI (i + 1))), (2, .int (nI 1)), (5, .int (nI 1)), (4, .int (nI (B i))), (0, .ref h0), (1, .int (nI p9))]) hx hb dX10_skipBlanks_89 hl (k := 5) rfl (nI_1 i) (by decide) rfl (fun ls hl => ?_)
                  refine lv_goto (tgt := 4) hx hb dX10_skipBlanks_92 (by decide) ?_
                  exact ih_lp (i + 1) true (by omega) (by omega) (by rw [← hE, if_pos d1n, show n + 1 - (i + 1) = n - i by omega]) _ _ _ hP hD hS (lv_sub hl [4, 5, 1, 0] rfl)
  exact lp (n + 1) p9 false (by omega) hp rfl _ _ _ hP hD hS (lv_sub hl [2, 3, 1, 0] rfl)
