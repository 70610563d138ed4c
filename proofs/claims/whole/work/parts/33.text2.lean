theorem txt_ne {c k : Nat} (hc : c < 256) (hk : k < 256) : nI c = nI k ↔ c = k := nI_eq (by omega) (by omega)
abbrev rm_k_X12_byteAt : Room := { frames := 0, cells := 0, slots := 0, locals := 0 }
set_option maxHeartbeats 4000000 in
set_option maxRecDepth 100000 in
theorem k_X12_byteAt (l : Launch) (E : cE) (h0 : Nat) (r : Nat → Nat) (g : Nat → Value) (n : Nat) (f : Nat → Int32) (B : Nat → Nat) (p9 : Nat) (hR : mOK r g) (hge : g 7 = .int (nI n)) (hn : n ≤ 4096) (ht : txt B n f) (hp : p9 ≤ 4096) : cM l E yX12_byteAt cX12_byteAt 2 (some .int) rm_k_X12_byteAt [.ref h0, .int (nI p9)] [(h0, ob 12 (mfs g)), ((r 0), aB E 4096 f)] (qI E (fun (r : Int32) (_u : Unit) => r = if p9 < n then nI (B p9) else -1) (fun _ => [(h0, ob 12 (mfs g)), ((r 0), aB E 4096 f)])) := by
  refine cM_of (by decide) (Nat.le_of_ble_eq_true rfl) ?_
  intro p e s m below meth c ls A F hA hS hP hD hK hZ hl
  obtain ⟨hx, hb, hr, hml, hown, hts, hlk, hin⟩ := id F
  have hown : s.vm.findClass RX12 = some m.cls := hown
  have hl : lv_has ls 2 [(0, .ref h0), (1, .int (nI p9))] := hl
  refine lv_iload_n hx hb dX12_byteAt_0 rfl (lv_at hl 1 rfl) ?_
  refine lv_aload_n hx hb dX12_byteAt_1 rfl (lv_at hl 0 rfl) ?_
  refine va_get (D := E.1) (ci := 12) (v := .int (nI n)) (C := RX12) (T := TX12) (N := 116) hx hb hts iX12 hown hK hP 0 rfl rfl 7 (by decide) (hts _ wdF_RX12_261) (fun _ h9 => h9) ((mfs_get _ 7 (by decide)).trans (congrArg some (show (g) 7 = .int (nI n) from hge))) dX12_byteAt_2 ?_
  refine lv_icmp_ge (tgt := 21) hx hb dX12_byteAt_5 (by decide) (fun c1 => ?_) (fun c1 => ?_)
  · have c2 : n ≤ p9 := (nI_leI (by omega) (by omega)).mp c1
    refine lv_iconst (v := (-1)) hx hb dX12_byteAt_21 (by decide) ?_
    exact cI_ret F hP hD hS hK () (by rw [if_neg (by omega)]) [0, 1] rfl rfl dX12_byteAt_22 (by decide) (by decide)
  · have c2 : p9 < n := Nat.lt_of_not_le (fun h => c1 (nI_le h (by omega)))
    refine lv_aload_n hx hb dX12_byteAt_8 rfl (lv_at hl 0 rfl) ?_
    refine va_get (D := E.1) (ci := 12) (v := .ref (r 0)) (C := RX12) (T := TX12) (N := 116) hx hb hts iX12 hown hK hP 0 rfl rfl 0 (by decide) (hts _ wdF_RX12_7) (fun _ h9 => h9) ((mfs_get _ 0 (by decide)).trans (congrArg some (show (g) 0 = .ref (r 0) from (hR 0 rfl)))) dX12_byteAt_9 ?_
    refine lv_iload_n hx hb dX12_byteAt_12 rfl (lv_at hl 1 rfl) ?_
    refine va_bald hx hb hK hP 1 0 rfl rfl (vp_in_nI (by omega) (by decide)) dX12_byteAt_13 ?_
    rw [nI_clamp (n := p9) (by omega)]
    refine lv_sipush (v := nI 255) hx hb dX12_byteAt_14 (by decide) ?_
    refine lv_iand hx hb dX12_byteAt_17 ?_
    refine lv_goto (tgt := 22) hx hb dX12_byteAt_18 (by decide) ?_
    exact cI_ret F hP hD hS hK () (by rw [if_pos c2]; exact (ht p9 c2).2) [0, 1] rfl rfl dX12_byteAt_22 (by decide) (by decide)
abbrev rm_k_X12_isBlank : Room := { frames := 0, cells := 0, slots := 0, locals := 0 }
set_option maxHeartbeats 4000000 in
set_option maxRecDepth 100000 in
theorem k_X12_isBlank (l : Launch) (E : cE) (v : Int32) : cM l E yX12_isBlank cX12_isBlank 1 (some .boolean) rm_k_X12_isBlank [.int v] [] (qI E (fun (r : Int32) (_u : Unit) => r = if v = nI 9 ∨ v = nI 10 ∨ v = nI 13 ∨ v = nI 32 then 1 else 0) (fun _ => [])) := by
  refine cM_of (by decide) (Nat.le_of_ble_eq_true rfl) ?_
  intro p e s m below meth c ls A F hA hS hP hD hK hZ hl
  obtain ⟨hx, hb, hr, hml, hown, hts, hlk, hin⟩ := id F
  have hown : s.vm.findClass RX12 = some m.cls := hown
  have hl : lv_has ls 1 [(0, .int v)] := hl
  refine lv_iload_n hx hb dX12_isBlank_0 rfl (lv_at hl 0 rfl) ?_
  refine lv_bipush (v := nI 9) hx hb dX12_isBlank_1 (by decide) ?_
  refine lv_icmp_eq (tgt := 24) hx hb dX12_isBlank_3 (by decide) (fun b0 => ?_) (fun b0 => ?_)
  · refine lv_iconst (v := nI 1) hx hb dX12_isBlank_24 (by decide) ?_
    refine lv_goto (tgt := 29) hx hb dX12_isBlank_25 (by decide) ?_
    exact cB_ret F hP hD hS hK (by decide) () (if_pos (Or.inl b0)).symm [] rfl rfl dX12_isBlank_29 (by decide) (by decide)
  · refine lv_iload_n hx hb dX12_isBlank_6 rfl (lv_at hl 0 rfl) ?_
    refine lv_bipush (v := nI 10) hx hb dX12_isBlank_7 (by decide) ?_
    refine lv_icmp_eq (tgt := 24) hx hb dX12_isBlank_9 (by decide) (fun b1 => ?_) (fun b1 => ?_)
    · refine lv_iconst (v := nI 1) hx hb dX12_isBlank_24 (by decide) ?_
      refine lv_goto (tgt := 29) hx hb dX12_isBlank_25 (by decide) ?_
      exact cB_ret F hP hD hS hK (by decide) () (if_pos (Or.inr (Or.inl b1))).symm [] rfl rfl dX12_isBlank_29 (by decide) (by decide)
    · refine lv_iload_n hx hb dX12_isBlank_12 rfl (lv_at hl 0 rfl) ?_
      refine lv_bipush (v := nI 13) hx hb dX12_isBlank_13 (by decide) ?_
      refine lv_icmp_eq (tgt := 24) hx hb dX12_isBlank_15 (by decide) (fun b2 => ?_) (fun b2 => ?_)
      · refine lv_iconst (v := nI 1) hx hb dX12_isBlank_24 (by decide) ?_
        refine lv_goto (tgt := 29) hx hb dX12_isBlank_25 (by decide) ?_
        exact cB_ret F hP hD hS hK (by decide) () (if_pos (Or.inr (Or.inr (Or.inl b2)))).symm [] rfl rfl dX12_isBlank_29 (by decide) (by decide)
      · refine lv_iload_n hx hb dX12_isBlank_18 rfl (lv_at hl 0 rfl) ?_
        refine lv_bipush (v := nI 32) hx hb dX12_isBlank_19 (by decide) ?_
        refine lv_icmp_ne (tgt := 28) hx hb dX12_isBlank_21 (by decide) (fun b3 => ?_) (fun b3 => ?_)
        · refine lv_iconst (v := nI 0) hx hb dX12_isBlank_28 (by decide) ?_
          exact cB_ret F hP hD hS hK (by decide) () (if_neg (fun h => h.elim b0 (fun h => h.elim b1 (fun h => h.elim b2 b3)))).symm [] rfl rfl dX12_isBlank_29 (by decide) (by decide)
        · refine lv_iconst (v := nI 1) hx hb dX12_isBlank_24 (by decide) ?_
          refine lv_goto (tgt := 29) hx hb dX12_isBlank_25 (by decide) ?_
          exact cB_ret F hP hD hS hK (by decide) () (if_pos (Or.inr (Or.inr (Or.inr b3)))).symm [] rfl rfl dX12_isBlank_29 (by decide) (by decide)
