theorem dX12_isKey_0 : decode cX12_isKey 0 = .ok (.aload_n 0, 1) := by decide +kernel
theorem dX12_isKey_1 : decode cX12_isKey 1 = .ok (.getfield 278, 3) := by decide +kernel
theorem dX12_isKey_4 : decode cX12_isKey 4 = .ok (.iconst 1, 1) := by decide +kernel
theorem dX12_isKey_5 : decode cX12_isKey 5 = .ok (.if_icmp .ne 15, 3) := by decide +kernel
theorem dX12_isKey_8 : decode cX12_isKey 8 = .ok (.aload_n 0, 1) := by decide +kernel
theorem dX12_isKey_9 : decode cX12_isKey 9 = .ok (.getfield 294, 3) := by decide +kernel
theorem dX12_isKey_12 : decode cX12_isKey 12 = .ok (.iload_n 1, 1) := by decide +kernel
theorem dX12_isKey_13 : decode cX12_isKey 13 = .ok (.if_icmp .ne 7, 3) := by decide +kernel
theorem dX12_isKey_16 : decode cX12_isKey 16 = .ok (.iconst 1, 1) := by decide +kernel
theorem dX12_isKey_17 : decode cX12_isKey 17 = .ok (.goto 4, 3) := by decide +kernel
theorem dX12_isKey_20 : decode cX12_isKey 20 = .ok (.iconst 0, 1) := by decide +kernel
theorem dX12_isKey_21 : decode cX12_isKey 21 = .ok (.ireturn, 1) := by decide +kernel
abbrev rm_k_X12_isKey : Room := { frames := 0, cells := 0, slots := 0, locals := 0 }
set_option maxHeartbeats 4000000 in
set_option maxRecDepth 100000 in
theorem k_X12_isKey (l : Launch) (E : cE) (h0 : Nat) (r : Nat → Nat) (g : Nat → Value) (kd : Int32) (vl : Int32) (k : Int32) (hR : mOK r g) (hg3 : g 3 = .int kd) (hg5 : g 5 = .int vl) : cM l E yX12_isKey cX12_isKey 2 (some .boolean) rm_k_X12_isKey [.ref h0, .int k] [(h0, ob 12 (mfs g))] (qI E (fun (r : Int32) (_u : Unit) => r = if kd = nI 1 ∧ vl = k then 1 else 0) (fun _ => [(h0, ob 12 (mfs g))])) := by
  refine cM_of (by decide) (Nat.le_of_ble_eq_true rfl) ?_
  intro p e s m below meth c ls A F hA hS hP hD hK hZ hl
  obtain ⟨hx, hb, hr, hml, hown, hts, hlk, hin⟩ := id F
  have hown : s.vm.findClass RX12 = some m.cls := hown
  have hl : lv_has ls 2 [(0, .ref h0), (1, .int k)] := hl
  refine lv_aload_n hx hb dX12_isKey_0 rfl (lv_at hl 0 rfl) ?_
  refine va_get (D := E.1) (ci := 12) (v := .int kd) (C := RX12) (T := TX12) (N := 116) hx hb hts iX12 hown hK hP 0 rfl rfl 3 (by decide) (hts _ wdF_RX12_278) (fun _ h9 => h9) ((mfs_get _ 3 (by decide)).trans (congrArg some (show (g) 3 = .int kd from hg3))) dX12_isKey_1 ?_
  refine lv_iconst (v := nI 1) hx hb dX12_isKey_4 (by decide) ?_
  refine lv_icmp_ne (tgt := 20) hx hb dX12_isKey_5 (by decide) (fun c1 => ?_) (fun c1 => ?_)
  · refine lv_iconst (v := nI 0) hx hb dX12_isKey_20 (by decide) ?_
    exact cB_ret F hP hD hS hK (by decide) () (if_neg (fun h => c1 h.1)).symm [0] rfl rfl dX12_isKey_21 (by decide) (by decide)
  · refine lv_aload_n hx hb dX12_isKey_8 rfl (lv_at hl 0 rfl) ?_
    refine va_get (D := E.1) (ci := 12) (v := .int vl) (C := RX12) (T := TX12) (N := 116) hx hb hts iX12 hown hK hP 0 rfl rfl 5 (by decide) (hts _ wdF_RX12_294) (fun _ h9 => h9) ((mfs_get _ 5 (by decide)).trans (congrArg some (show (g) 5 = .int vl from hg5))) dX12_isKey_9 ?_
    refine lv_iload_n hx hb dX12_isKey_12 rfl (lv_at hl 1 rfl) ?_
    refine lv_icmp_ne (tgt := 20) hx hb dX12_isKey_13 (by decide) (fun c2 => ?_) (fun c2 => ?_)
    · refine lv_iconst (v := nI 0) hx hb dX12_isKey_20 (by decide) ?_
      exact cB_ret F hP hD hS hK (by decide) () (if_neg (fun h => c2 h.2)).symm [0] rfl rfl dX12_isKey_21 (by decide) (by decide)
    · refine lv_iconst (v := nI 1) hx hb dX12_isKey_16 (by decide) ?_
      refine lv_goto (tgt := 21) hx hb dX12_isKey_17 (by decide) ?_
      exact cB_ret F hP hD hS hK (by decide) () (if_pos ⟨c1, c2⟩).symm [0] rfl rfl dX12_isKey_21 (by decide) (by decide)
theorem yy_X12_isKey : cY yX12_isKey cX12_isKey 2 (some .boolean) 1 := ⟨wdK_X12_isKey, wdZ_RX12, by decide +kernel⟩
theorem yi_X12_isKey : cYi yX12_isKey := ⟨wdN_X12_isKey, wdS_X12_isKey⟩
abbrev rm_k_X12_isSign : Room := { frames := 0, cells := 0, slots := 0, locals := 0 }
set_option maxHeartbeats 4000000 in
set_option maxRecDepth 100000 in
theorem k_X12_isSign (l : Launch) (E : cE) (h0 : Nat) (r : Nat → Nat) (g : Nat → Value) (kd : Int32) (vl : Int32) (k : Int32) (hR : mOK r g) (hg3 : g 3 = .int kd) (hg5 : g 5 = .int vl) : cM l E yX12_isSign cX12_isSign 2 (some .boolean) rm_k_X12_isSign [.ref h0, .int k] [(h0, ob 12 (mfs g))] (qI E (fun (r : Int32) (_u : Unit) => r = if kd = nI 4 ∧ vl = k then 1 else 0) (fun _ => [(h0, ob 12 (mfs g))])) := by
  refine cM_of (by decide) (Nat.le_of_ble_eq_true rfl) ?_
  intro p e s m below meth c ls A F hA hS hP hD hK hZ hl
  obtain ⟨hx, hb, hr, hml, hown, hts, hlk, hin⟩ := id F
  have hown : s.vm.findClass RX12 = some m.cls := hown
  have hl : lv_has ls 2 [(0, .ref h0), (1, .int k)] := hl
  refine lv_aload_n hx hb dX12_isSign_0 rfl (lv_at hl 0 rfl) ?_
  refine va_get (D := E.1) (ci := 12) (v := .int kd) (C := RX12) (T := TX12) (N := 116) hx hb hts iX12 hown hK hP 0 rfl rfl 3 (by decide) (hts _ wdF_RX12_278) (fun _ h9 => h9) ((mfs_get _ 3 (by decide)).trans (congrArg some (show (g) 3 = .int kd from hg3))) dX12_isSign_1 ?_
  refine lv_iconst (v := nI 4) hx hb dX12_isSign_4 (by decide) ?_
  refine lv_icmp_ne (tgt := 20) hx hb dX12_isSign_5 (by decide) (fun c1 => ?_) (fun c1 => ?_)
  · refine lv_iconst (v := nI 0) hx hb dX12_isSign_20 (by decide) ?_
    exact cB_ret F hP hD hS hK (by decide) () (if_neg (fun h => c1 h.1)).symm [0] rfl rfl dX12_isSign_21 (by decide) (by decide)
  · refine lv_aload_n hx hb dX12_isSign_8 rfl (lv_at hl 0 rfl) ?_
    refine va_get (D := E.1) (ci := 12) (v := .int vl) (C := RX12) (T := TX12) (N := 116) hx hb hts iX12 hown hK hP 0 rfl rfl 5 (by decide) (hts _ wdF_RX12_294) (fun _ h9 => h9) ((mfs_get _ 5 (by decide)).trans (congrArg some (show (g) 5 = .int vl from hg5))) dX12_isSign_9 ?_
    refine lv_iload_n hx hb dX12_isSign_12 rfl (lv_at hl 1 rfl) ?_
    refine lv_icmp_ne (tgt := 20) hx hb dX12_isSign_13 (by decide) (fun c2 => ?_) (fun c2 => ?_)
    · refine lv_iconst (v := nI 0) hx hb dX12_isSign_20 (by decide) ?_
      exact cB_ret F hP hD hS hK (by decide) () (if_neg (fun h => c2 h.2)).symm [0] rfl rfl dX12_isSign_21 (by decide) (by decide)
    · refine lv_iconst (v := nI 1) hx hb dX12_isSign_16 (by decide) ?_
      refine lv_goto (tgt := 21) hx hb dX12_isSign_17 (by decide) ?_
      exact cB_ret F hP hD hS hK (by decide) () (if_pos ⟨c1, c2⟩).symm [0] rfl rfl dX12_isSign_21 (by decide) (by decide)
abbrev rm_k_X12_wrong : Room := { frames := 0, cells := 0, slots := 0, locals := 0 }
set_option maxHeartbeats 4000000 in
set_option maxRecDepth 100000 in
theorem k_X12_wrong (l : Launch) (E : cE) (h0 : Nat) (r : Nat → Nat) (g : Nat → Value) (k : Int32) (hR : mOK r g) : cM l E yX12_wrong cX12_wrong 2 (some .boolean) rm_k_X12_wrong [.ref h0, .int k] [(h0, ob 12 (mfs g))] (qI E (fun (r : Int32) (_u : Unit) => r = 0) (fun _ => [(h0, ob 12 (mfs (updG g 8 (.int k))))])) := by
  refine cM_of (by decide) (Nat.le_of_ble_eq_true rfl) ?_
  intro p e s m below meth c ls A F hA hS hP hD hK hZ hl
  obtain ⟨hx, hb, hr, hml, hown, hts, hlk, hin⟩ := id F
  have hown : s.vm.findClass RX12 = some m.cls := hown
  have hl : lv_has ls 2 [(0, .ref h0), (1, .int k)] := hl
  refine lv_aload_n hx hb dX12_wrong_0 rfl (lv_at hl 0 rfl) ?_
  refine lv_iload_n hx hb dX12_wrong_1 rfl (lv_at hl 1 rfl) ?_
  refine va_put (D := E.1) (ci := 12) (v := .int k) (ty := .int) (C := RX12) (T := TX12) (N := 116) hx hb hts iX12 tyX12 tyX12_ok nmX12 hown hK hP hD hS 0 rfl rfl 8 (by decide) (hts _ wdF_RX12_308) (fun _ h9 => h9) rfl (by decide +kernel) rfl rfl (by rw [mfs_len]; decide) dX12_wrong_2 (fun H locs hP hD hS => ?_)
  have hP : va_P E.1 vwCl [(h0, ob 12 ((mfs g).set 8 (.int k)))] H := hP
  have hD : va_D A [(h0, ob 12 ((mfs g).set 8 (.int k)))] := hD
  rw [mfs_set _ 8 _ (by decide)] at hP hD
  refine lv_iconst (v := nI 0) hx hb dX12_wrong_5 (by decide) ?_
  exact cB_ret F hP hD hS hK (by decide) () rfl [0] rfl rfl dX12_wrong_6 (by decide) (by decide)
abbrev rm_k_X10_put : Room := { frames := 0, cells := 0, slots := 0, locals := 0 }
set_option maxHeartbeats 4000000 in
set_option maxRecDepth 100000 in
theorem k_X10_put (l : Launch) (E : cE) (h0 : Nat) (t0 : Nat) (t2 : Nat) (t3 : Nat) (t4 : Nat) (t5 : Nat) (t6 : Nat) (nb : Int32) (k : Nat) (f3 : Nat → Int32) (f4 : Nat → Int32) (f5 : Nat → Int32) (a : Int32) (b : Int32) (d : Int32) (hk : k < 4098) : cM l E yX10_put cX10_put 4 none rm_k_X10_put [.ref h0, .int a, .int b, .int d] [(h0, ob 10 [.ref t0, .int nb, .ref t2, .ref t3, .ref t4, .ref t5, .ref t6, .int (nI k)]), (t3, aI E 4098 f3), (t4, aI E 4098 f4), (t5, aI E 4098 f5)] (qV E (fun (_u : Unit) => True) (fun _ => [(h0, ob 10 [.ref t0, .int nb, .ref t2, .ref t3, .ref t4, .ref t5, .ref t6, .int (nI (k + 1))]), (t3, aI E 4098 (upd f3 k a)), (t4, aI E 4098 (upd f4 k b)), (t5, aI E 4098 (upd f5 k d))])) := by
  refine cM_of (by decide) (Nat.le_of_ble_eq_true rfl) ?_
  intro p e s m below meth c ls A F hA hS hP hD hK hZ hl
  obtain ⟨hx, hb, hr, hml, hown, hts, hlk, hin⟩ := id F
  have hown : s.vm.findClass RX10 = some m.cls := hown
  have hl : lv_has ls 4 [(0, .ref h0), (1, .int a), (2, .int b), (3, .int d)] := hl
  refine lv_aload_n hx hb dX10_put_0 rfl (lv_at hl 0 rfl) ?_
  refine va_get (D := E.1) (ci := 10) (v := .int (nI k)) (C := RX10) (T := TX10) (N := 8) hx hb hts iX10 hown hK hP 0 rfl rfl 7 (by decide) (hts _ wdF_RX10_48) (fun _ h9 => h9) rfl dX10_put_1 ?_
  refine lv_aload_n hx hb dX10_put_4 rfl (lv_at hl 0 rfl) ?_
  refine va_get (D := E.1) (ci := 10) (v := .ref t3) (C := RX10) (T := TX10) (N := 8) hx hb hts iX10 hown hK hP 0 rfl rfl 3 (by decide) (hts _ wdF_RX10_19) (fun _ h9 => h9) rfl dX10_put_5 ?_
  refine va_alen hx hb hK hP 1 1 rfl rfl (v := nI 4098) rfl dX10_put_8 ?_
  refine lv_icmp_ge (tgt := 52) hx hb dX10_put_9 (by decide) (fun c_1 => absurd c_1 (nI_ge hk (by decide))) (fun c_1 => ?_)
  refine lv_aload_n hx hb dX10_put_12 rfl (lv_at hl 0 rfl) ?_
  refine va_get (D := E.1) (ci := 10) (v := .ref t3) (C := RX10) (T := TX10) (N := 8) hx hb hts iX10 hown hK hP 0 rfl rfl 3 (by decide) (hts _ wdF_RX10_19) (fun _ h9 => h9) rfl dX10_put_13 ?_
  refine lv_aload_n hx hb dX10_put_16 rfl (lv_at hl 0 rfl) ?_
  refine va_get (D := E.1) (ci := 10) (v := .int (nI k)) (C := RX10) (T := TX10) (N := 8) hx hb hts iX10 hown hK hP 0 rfl rfl 7 (by decide) (hts _ wdF_RX10_48) (fun _ h9 => h9) rfl dX10_put_17 ?_
  refine lv_iload_n hx hb dX10_put_20 rfl (lv_at hl 1 rfl) ?_
  refine va_iast hx hb hK hP hD hS 1 1 rfl rfl (vp_in_nI (by omega) (by decide)) dX10_put_21 (fun H locs hP hD hS => ?_)
  have hP : va_P E.1 vwCl [(h0, ob 10 [.ref t0, .int nb, .ref t2, .ref t3, .ref t4, .ref t5, .ref t6, .int (nI k)]), (t3, aI E 4098 (upd f3 (nI k).toNatClampNeg a)), (t4, aI E 4098 f4), (t5, aI E 4098 f5)] H := hP
  have hD : va_D A [(h0, ob 10 [.ref t0, .int nb, .ref t2, .ref t3, .ref t4, .ref t5, .ref t6, .int (nI k)]), (t3, aI E 4098 (upd f3 (nI k).toNatClampNeg a)), (t4, aI E 4098 f4), (t5, aI E 4098 f5)] := hD
  rw [nI_clamp (n := k) (by omega)] at hP hD
  refine lv_aload_n hx hb dX10_put_22 rfl (lv_at hl 0 rfl) ?_
  refine va_get (D := E.1) (ci := 10) (v := .ref t4) (C := RX10) (T := TX10) (N := 8) hx hb hts iX10 hown hK hP 0 rfl rfl 4 (by decide) (hts _ wdF_RX10_23) (fun _ h9 => h9) rfl dX10_put_23 ?_
  refine lv_aload_n hx hb dX10_put_26 rfl (lv_at hl 0 rfl) ?_
  refine va_get (D := E.1) (ci := 10) (v := .int (nI k)) (C := RX10) (T := TX10) (N := 8) hx hb hts iX10 hown hK hP 0 rfl rfl 7 (by decide) (hts _ wdF_RX10_48) (fun _ h9 => h9) rfl dX10_put_27 ?_
  refine lv_iload_n hx hb dX10_put_30 rfl (lv_at hl 2 rfl) ?_
  refine va_iast hx hb hK hP hD hS 2 1 rfl rfl (vp_in_nI (by omega) (by decide)) dX10_put_31 (fun H locs hP hD hS => ?_)
  have hP : va_P E.1 vwCl [(h0, ob 10 [.ref t0, .int nb, .ref t2, .ref t3, .ref t4, .ref t5, .ref t6, .int (nI k)]), (t3, aI E 4098 (upd f3 k a)), (t4, aI E 4098 (upd f4 (nI k).toNatClampNeg b)), (t5, aI E 4098 f5)] H := hP
  have hD : va_D A [(h0, ob 10 [.ref t0, .int nb, .ref t2, .ref t3, .ref t4, .ref t5, .ref t6, .int (nI k)]), (t3, aI E 4098 (upd f3 k a)), (t4, aI E 4098 (upd f4 (nI k).toNatClampNeg b)), (t5, aI E 4098 f5)] := hD
  rw [nI_clamp (n := k) (by omega)] at hP hD
  refine lv_aload_n hx hb dX10_put_32 rfl (lv_at hl 0 rfl) ?_
  refine va_get (D := E.1) (ci := 10) (v := .ref t5) (C := RX10) (T := TX10) (N := 8) hx hb hts iX10 hown hK hP 0 rfl rfl 5 (by decide) (hts _ wdF_RX10_26) (fun _ h9 => h9) rfl dX10_put_33 ?_
  refine lv_aload_n hx hb dX10_put_36 rfl (lv_at hl 0 rfl) ?_
  refine va_get (D := E.1) (ci := 10) (v := .int (nI k)) (C := RX10) (T := TX10) (N := 8) hx hb hts iX10 hown hK hP 0 rfl rfl 7 (by decide) (hts _ wdF_RX10_48) (fun _ h9 => h9) rfl dX10_put_37 ?_
  refine lv_iload_n hx hb dX10_put_40 rfl (lv_at hl 3 rfl) ?_
  refine va_iast hx hb hK hP hD hS 3 1 rfl rfl (vp_in_nI (by omega) (by decide)) dX10_put_41 (fun H locs hP hD hS => ?_)
  have hP : va_P E.1 vwCl [(h0, ob 10 [.ref t0, .int nb, .ref t2, .ref t3, .ref t4, .ref t5, .ref t6, .int (nI k)]), (t3, aI E 4098 (upd f3 k a)), (t4, aI E 4098 (upd f4 k b)), (t5, aI E 4098 (upd f5 (nI k).toNatClampNeg d))] H := hP
  have hD : va_D A [(h0, ob 10 [.ref t0, .int nb, .ref t2, .ref t3, .ref t4, .ref t5, .ref t6, .int (nI k)]), (t3, aI E 4098 (upd f3 k a)), (t4, aI E 4098 (upd f4 k b)), (t5, aI E 4098 (upd f5 (nI k).toNatClampNeg d))] := hD
  rw [nI_clamp (n := k) (by omega)] at hP hD
  refine lv_aload_n hx hb dX10_put_42 rfl (lv_at hl 0 rfl) ?_
  refine lv_dup hx hb dX10_put_43 rfl ?_
  refine va_get (D := E.1) (ci := 10) (v := .int (nI k)) (C := RX10) (T := TX10) (N := 8) hx hb hts iX10 hown hK hP 0 rfl rfl 7 (by decide) (hts _ wdF_RX10_48) (fun _ h9 => h9) rfl dX10_put_44 ?_
  refine lv_iconst (v := nI 1) hx hb dX10_put_47 (by decide) ?_
  refine lv_iadd hx hb dX10_put_48 ?_
  rw [nI_add k 1]
  refine va_put (D := E.1) (ci := 10) (v := .int (nI (k + 1))) (ty := .int) (C := RX10) (T := TX10) (N := 8) hx hb hts iX10 tyX10 tyX10_ok nmX10 hown hK hP hD hS 0 rfl rfl 7 (by decide) (hts _ wdF_RX10_48) (fun _ h9 => h9) rfl (by decide +kernel) rfl rfl (Nat.le_of_ble_eq_true rfl) dX10_put_49 (fun H locs hP hD hS => ?_)
  have hP : va_P E.1 vwCl [(h0, ob 10 [.ref t0, .int nb, .ref t2, .ref t3, .ref t4, .ref t5, .ref t6, .int (nI (k + 1))]), (t3, aI E 4098 (upd f3 k a)), (t4, aI E 4098 (upd f4 k b)), (t5, aI E 4098 (upd f5 k d))] H := hP
  have hD : va_D A [(h0, ob 10 [.ref t0, .int nb, .ref t2, .ref t3, .ref t4, .ref t5, .ref t6, .int (nI (k + 1))]), (t3, aI E 4098 (upd f3 k a)), (t4, aI E 4098 (upd f4 k b)), (t5, aI E 4098 (upd f5 k d))] := hD
  exact cV_ret F hP hD hS hK () trivial [0, 1, 2, 3] rfl rfl dX10_put_52 (by decide) (by decide)
abbrev rm_k_X10_startOf : Room := { frames := 0, cells := 0, slots := 0, locals := 0 }
set_option maxHeartbeats 4000000 in
set_option maxRecDepth 100000 in
theorem k_X10_startOf (l : Launch) (E : cE) (h0 : Nat) (t0 : Nat) (t2 : Nat) (t3 : Nat) (t4 : Nat) (t5 : Nat) (t6 : Nat) (nb : Int32) (k : Nat) (f5 : Nat → Int32) (i : Nat) (hi : i < k) (hk : k ≤ 4098) : cM l E yX10_startOf cX10_startOf 2 (some .int) rm_k_X10_startOf [.ref h0, .int (nI i)] [(h0, ob 10 [.ref t0, .int nb, .ref t2, .ref t3, .ref t4, .ref t5, .ref t6, .int (nI k)]), (t5, aI E 4098 f5)] (qI E (fun (r : Int32) (_u : Unit) => r = f5 i) (fun _ => [(h0, ob 10 [.ref t0, .int nb, .ref t2, .ref t3, .ref t4, .ref t5, .ref t6, .int (nI k)]), (t5, aI E 4098 f5)])) := by
  refine cM_of (by decide) (Nat.le_of_ble_eq_true rfl) ?_
  intro p e s m below meth c ls A F hA hS hP hD hK hZ hl
  obtain ⟨hx, hb, hr, hml, hown, hts, hlk, hin⟩ := id F
  have hown : s.vm.findClass RX10 = some m.cls := hown
  have hl : lv_has ls 2 [(0, .ref h0), (1, .int (nI i))] := hl
  refine lv_iload_n hx hb dX10_startOf_0 rfl (lv_at hl 1 rfl) ?_
  refine lv_if_lt (tgt := 21) hx hb dX10_startOf_1 (by decide) (fun c_2 => absurd c_2 (nI_pos (by omega))) (fun c_2 => ?_)
  refine lv_iload_n hx hb dX10_startOf_4 rfl (lv_at hl 1 rfl) ?_
  refine lv_aload_n hx hb dX10_startOf_5 rfl (lv_at hl 0 rfl) ?_
  refine va_get (D := E.1) (ci := 10) (v := .int (nI k)) (C := RX10) (T := TX10) (N := 8) hx hb hts iX10 hown hK hP 0 rfl rfl 7 (by decide) (hts _ wdF_RX10_48) (fun _ h9 => h9) rfl dX10_startOf_6 ?_
  refine lv_icmp_ge (tgt := 21) hx hb dX10_startOf_9 (by decide) (fun c_3 => absurd c_3 (nI_ge hi (by omega))) (fun c_3 => ?_)
  refine lv_aload_n hx hb dX10_startOf_12 rfl (lv_at hl 0 rfl) ?_
  refine va_get (D := E.1) (ci := 10) (v := .ref t5) (C := RX10) (T := TX10) (N := 8) hx hb hts iX10 hown hK hP 0 rfl rfl 5 (by decide) (hts _ wdF_RX10_26) (fun _ h9 => h9) rfl dX10_startOf_13 ?_
  refine lv_iload_n hx hb dX10_startOf_16 rfl (lv_at hl 1 rfl) ?_
  refine va_iald hx hb hK hP 1 1 rfl rfl (vp_in_nI (by omega) (by decide)) dX10_startOf_17 ?_
  rw [nI_clamp (n := i) (by omega)]
  refine lv_goto (tgt := 22) hx hb dX10_startOf_18 (by decide) ?_
  exact cI_ret F hP hD hS hK () rfl [0, 1] rfl rfl dX10_startOf_22 (by decide) (by decide)
