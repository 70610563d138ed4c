abbrev bt (v : Int32) (k : Nat) : Int32 := vp_nar .byte ((v.toUInt32 >>> ((nI k).toUInt32 &&& Int32.toUInt32 31)).toInt32.toInt8.toInt32)
def ap4 (f : Nat → Int32) (b : Nat) (v : Int32) : Nat → Int32 := upd (upd (upd (upd f b (bt v 24)) (b + 1) (bt v 16)) (b + 1 + 1) (bt v 8)) (b + 1 + 1 + 1) (bt v 0)
theorem dX10_hasRoom_0 : decode cX10_hasRoom 0 = .ok (.aload_n 0, 1) := by decide +kernel
theorem dX10_hasRoom_1 : decode cX10_hasRoom 1 = .ok (.getfield 44, 3) := by decide +kernel
theorem dX10_hasRoom_4 : decode cX10_hasRoom 4 = .ok (.iload_n 1, 1) := by decide +kernel
theorem dX10_hasRoom_5 : decode cX10_hasRoom 5 = .ok (.iadd, 1) := by decide +kernel
theorem dX10_hasRoom_6 : decode cX10_hasRoom 6 = .ok (.sipush 4096, 3) := by decide +kernel
theorem dX10_hasRoom_9 : decode cX10_hasRoom 9 = .ok (.if_icmp .gt 7, 3) := by decide +kernel
theorem dX10_hasRoom_12 : decode cX10_hasRoom 12 = .ok (.iconst 1, 1) := by decide +kernel
theorem dX10_hasRoom_13 : decode cX10_hasRoom 13 = .ok (.goto 4, 3) := by decide +kernel
theorem dX10_hasRoom_16 : decode cX10_hasRoom 16 = .ok (.iconst 0, 1) := by decide +kernel
theorem dX10_hasRoom_17 : decode cX10_hasRoom 17 = .ok (.ireturn, 1) := by decide +kernel
abbrev rm_c_X10_hasRoom : Room := { frames := 0, cells := 0, slots := 0, locals := 0 }
set_option maxHeartbeats 4000000 in
set_option maxRecDepth 100000 in
/-- is there room for k bytes more -/
theorem c_X10_hasRoom (l : Launch) (E : cE) (h0 : Nat) (t0 : Nat) (t2 : Nat) (t3 : Nat) (t4 : Nat) (t5 : Nat) (t6 : Nat) (b : Nat) (cn : Int32) (k : Nat) (hb9 : b ≤ 4096) (hk9 : k ≤ 4096) : cM l E yX10_hasRoom cX10_hasRoom 2 (some .boolean) rm_c_X10_hasRoom [.ref h0, .int (nI k)] [(h0, ob 10 [.ref t0, .int (nI b), .ref t2, .ref t3, .ref t4, .ref t5, .ref t6, .int cn])] (qI E (fun (r : Int32) (_u : Unit) => r = if 4096 < b + k then 0 else 1) (fun _ => [(h0, ob 10 [.ref t0, .int (nI b), .ref t2, .ref t3, .ref t4, .ref t5, .ref t6, .int cn])])) := by
  refine cM_of (by decide) (Nat.le_of_ble_eq_true rfl) ?_
  intro p e s m below meth c ls A F hA hS hP hD hK hZ hl
  obtain ⟨hx, hb, hr, hml, hown, hts, hlk, hin⟩ := id F
  have hown : s.vm.findClass RX10 = some m.cls := hown
  have hl : lv_has ls 2 [(0, .ref h0), (1, .int (nI k))] := hl
  refine lv_aload_n hx hb dX10_hasRoom_0 rfl (lv_at hl 0 rfl) ?_
  refine va_get (D := E.1) (ci := 10) (v := .int (nI b)) (C := RX10) (T := TX10) (N := 8) hx hb hts iX10 hown hK hP 0 rfl rfl 1 (by decide) (hts _ wdF_RX10_44) (fun _ h9 => h9) rfl dX10_hasRoom_1 ?_
  refine lv_iload_n hx hb dX10_hasRoom_4 rfl (lv_at hl 1 rfl) ?_
  refine lv_iadd hx hb dX10_hasRoom_5 ?_
  rw [nI_add b k]
  refine lv_sipush (v := nI 4096) hx hb dX10_hasRoom_6 (by decide) ?_
  refine lv_icmp_gt (tgt := 16) hx hb dX10_hasRoom_9 (by decide) (fun c1 => ?_) (fun c1 => ?_)
  · refine lv_iconst (v := nI 0) hx hb dX10_hasRoom_16 (by decide) ?_
    have c2 : 4096 < b + k := (nI_ltI (by decide) (by omega)).mp c1
    exact cB_ret F hP hD hS hK (by decide) () (if_pos c2).symm [0] rfl rfl dX10_hasRoom_17 (by decide) (by decide)
  · refine lv_iconst (v := nI 1) hx hb dX10_hasRoom_12 (by decide) ?_
    refine lv_goto (tgt := 17) hx hb dX10_hasRoom_13 (by decide) ?_
    have c2 : ¬ 4096 < b + k := fun h => c1 ((nI_ltI (by decide) (by omega)).mpr h)
    exact cB_ret F hP hD hS hK (by decide) () (if_neg c2).symm [0] rfl rfl dX10_hasRoom_17 (by decide) (by decide)
theorem yy_X10_hasRoom : cY yX10_hasRoom cX10_hasRoom 2 (some .boolean) 1 := ⟨wdK_X10_hasRoom, wdZ_RX10, by decide +kernel⟩
theorem yi_X10_hasRoom : cYi yX10_hasRoom := ⟨wdN_X10_hasRoom, wdS_X10_hasRoom⟩
theorem dX10_append_0 : decode cX10_append 0 = .ok (.bipush 24, 2) := by decide +kernel
theorem dX10_append_2 : decode cX10_append 2 = .ok (.istore_n 2, 1) := by decide +kernel
theorem dX10_append_3 : decode cX10_append 3 = .ok (.iload_n 2, 1) := by decide +kernel
theorem dX10_append_4 : decode cX10_append 4 = .ok (.ifCond .lt 42, 3) := by decide +kernel
theorem dX10_append_7 : decode cX10_append 7 = .ok (.aload_n 0, 1) := by decide +kernel
theorem dX10_append_8 : decode cX10_append 8 = .ok (.getfield 44, 3) := by decide +kernel
theorem dX10_append_11 : decode cX10_append 11 = .ok (.sipush 4096, 3) := by decide +kernel
theorem dX10_append_14 : decode cX10_append 14 = .ok (.if_icmp .ge 32, 3) := by decide +kernel
theorem dX10_append_17 : decode cX10_append 17 = .ok (.aload_n 0, 1) := by decide +kernel
theorem dX10_append_18 : decode cX10_append 18 = .ok (.getfield 9, 3) := by decide +kernel
theorem dX10_append_21 : decode cX10_append 21 = .ok (.aload_n 0, 1) := by decide +kernel
theorem dX10_append_22 : decode cX10_append 22 = .ok (.getfield 44, 3) := by decide +kernel
theorem dX10_append_25 : decode cX10_append 25 = .ok (.iload_n 1, 1) := by decide +kernel
theorem dX10_append_26 : decode cX10_append 26 = .ok (.iload_n 2, 1) := by decide +kernel
theorem dX10_append_27 : decode cX10_append 27 = .ok (.iushr, 1) := by decide +kernel
theorem dX10_append_28 : decode cX10_append 28 = .ok (.i2b, 1) := by decide +kernel
theorem dX10_append_29 : decode cX10_append 29 = .ok (.bastore, 1) := by decide +kernel
theorem dX10_append_30 : decode cX10_append 30 = .ok (.aload_n 0, 1) := by decide +kernel
theorem dX10_append_31 : decode cX10_append 31 = .ok (.dup, 1) := by decide +kernel
theorem dX10_append_32 : decode cX10_append 32 = .ok (.getfield 44, 3) := by decide +kernel
theorem dX10_append_35 : decode cX10_append 35 = .ok (.iconst 1, 1) := by decide +kernel
theorem dX10_append_36 : decode cX10_append 36 = .ok (.iadd, 1) := by decide +kernel
theorem dX10_append_37 : decode cX10_append 37 = .ok (.putfield 44, 3) := by decide +kernel
theorem dX10_append_40 : decode cX10_append 40 = .ok (.iinc 2 (-8), 3) := by decide +kernel
theorem dX10_append_43 : decode cX10_append 43 = .ok (.goto (-40), 3) := by decide +kernel
theorem dX10_append_46 : decode cX10_append 46 = .ok (.return_, 1) := by decide +kernel
abbrev rm_c_X10_append : Room := { frames := 0, cells := 0, slots := 0, locals := 0 }
set_option maxHeartbeats 4000000 in
set_option maxRecDepth 100000 in
/-- four bytes come behind the tape -/
theorem c_X10_append (l : Launch) (E : cE) (h0 : Nat) (t0 : Nat) (t2 : Nat) (t3 : Nat) (t4 : Nat) (t5 : Nat) (t6 : Nat) (b : Nat) (cn : Int32) (v : Int32) (f : Nat → Int32) (hb9 : b + 4 ≤ 4096) : cM l E yX10_append cX10_append 3 none rm_c_X10_append [.ref h0, .int v] [(h0, ob 10 [.ref t0, .int (nI b), .ref t2, .ref t3, .ref t4, .ref t5, .ref t6, .int cn]), (t0, aB E 4096 f)] (qV E (fun (_u : Unit) => True) (fun _ => [(h0, ob 10 [.ref t0, .int (nI (b + 1 + 1 + 1 + 1)), .ref t2, .ref t3, .ref t4, .ref t5, .ref t6, .int cn]), (t0, aB E 4096 (ap4 f b v))])) := by
  refine cM_of (by decide) (Nat.le_of_ble_eq_true rfl) ?_
  intro p e s m below meth c ls A F hA hS hP hD hK hZ hl
  obtain ⟨hx, hb, hr, hml, hown, hts, hlk, hin⟩ := id F
  have hown : s.vm.findClass RX10 = some m.cls := hown
  have hl : lv_has ls 3 [(0, .ref h0), (1, .int v)] := hl
  refine lv_bipush (v := nI 24) hx hb dX10_append_0 (by decide) ?_
  refine lv_istore_n (lv' := [(2, .int (nI 24)), (0, .ref h0), (1, .int v)]) hx hb dX10_append_2 rfl hl (by decide) rfl (fun ls hl => ?_)
  refine lv_iload_n hx hb dX10_append_3 rfl (lv_at hl 0 rfl) ?_
  refine lv_if_lt (tgt := 46) hx hb dX10_append_4 (by decide) (fun c_1 => absurd c_1 (by decide)) (fun c_1 => ?_)
  refine lv_aload_n hx hb dX10_append_7 rfl (lv_at hl 1 rfl) ?_
  refine va_get (D := E.1) (ci := 10) (v := .int (nI b)) (C := RX10) (T := TX10) (N := 8) hx hb hts iX10 hown hK hP 0 rfl rfl 1 (by decide) (hts _ wdF_RX10_44) (fun _ h9 => h9) rfl dX10_append_8 ?_
  refine lv_sipush (v := nI 4096) hx hb dX10_append_11 (by decide) ?_
  refine lv_icmp_ge (tgt := 46) hx hb dX10_append_14 (by decide) (fun c_2 => absurd c_2 (nI_ge (by omega) (by decide))) (fun c_2 => ?_)
  refine lv_aload_n hx hb dX10_append_17 rfl (lv_at hl 1 rfl) ?_
  refine va_get (D := E.1) (ci := 10) (v := .ref t0) (C := RX10) (T := TX10) (N := 8) hx hb hts iX10 hown hK hP 0 rfl rfl 0 (by decide) (hts _ wdF_RX10_9) (fun _ h9 => h9) rfl dX10_append_18 ?_
  refine lv_aload_n hx hb dX10_append_21 rfl (lv_at hl 1 rfl) ?_
  refine va_get (D := E.1) (ci := 10) (v := .int (nI b)) (C := RX10) (T := TX10) (N := 8) hx hb hts iX10 hown hK hP 0 rfl rfl 1 (by decide) (hts _ wdF_RX10_44) (fun _ h9 => h9) rfl dX10_append_22 ?_
  refine lv_iload_n hx hb dX10_append_25 rfl (lv_at hl 2 rfl) ?_
  refine lv_iload_n hx hb dX10_append_26 rfl (lv_at hl 0 rfl) ?_
  refine lv_iushr hx hb dX10_append_27 rfl ?_
  refine lv_i2b hx hb dX10_append_28 rfl ?_
  refine va_bast hx hb hK hP hD hS 1 0 rfl rfl (vp_in_nI (by omega) (by decide)) dX10_append_29 (fun H locs hP hD hS => ?_)
  have hP : va_P E.1 vwCl [(h0, ob 10 [.ref t0, .int (nI b), .ref t2, .ref t3, .ref t4, .ref t5, .ref t6, .int cn]), (t0, aB E 4096 (upd f (nI b).toNatClampNeg (vp_nar .byte (((v.toUInt32 >>> ((nI 24).toUInt32 &&& Int32.toUInt32 31)).toInt32).toInt8.toInt32))))] H := hP
  have hD : va_D A [(h0, ob 10 [.ref t0, .int (nI b), .ref t2, .ref t3, .ref t4, .ref t5, .ref t6, .int cn]), (t0, aB E 4096 (upd f (nI b).toNatClampNeg (vp_nar .byte (((v.toUInt32 >>> ((nI 24).toUInt32 &&& Int32.toUInt32 31)).toInt32).toInt8.toInt32))))] := hD
  rw [nI_clamp (n := b) (by omega)] at hP hD
  refine lv_aload_n hx hb dX10_append_30 rfl (lv_at hl 1 rfl) ?_
  refine lv_dup hx hb dX10_append_31 rfl ?_
  refine va_get (D := E.1) (ci := 10) (v := .int (nI b)) (C := RX10) (T := TX10) (N := 8) hx hb hts iX10 hown hK hP 0 rfl rfl 1 (by decide) (hts _ wdF_RX10_44) (fun _ h9 => h9) rfl dX10_append_32 ?_
  refine lv_iconst (v := nI 1) hx hb dX10_append_35 (by decide) ?_
  refine lv_iadd hx hb dX10_append_36 ?_
  rw [nI_add b 1]
  refine va_put (D := E.1) (ci := 10) (v := .int (nI (b + 1))) (ty := .int) (C := RX10) (T := TX10) (N := 8) hx hb hts iX10 tyX10 tyX10_ok nmX10 hown hK hP hD hS 0 rfl rfl 1 (by decide) (hts _ wdF_RX10_44) (fun _ h9 => h9) rfl (by decide +kernel) rfl rfl (Nat.le_of_ble_eq_true rfl) dX10_append_37 (fun H locs hP hD hS => ?_)
  have hP : va_P E.1 vwCl [(h0, ob 10 [.ref t0, .int (nI (b + 1)), .ref t2, .ref t3, .ref t4, .ref t5, .ref t6, .int cn]), (t0, aB E 4096 (upd f b (vp_nar .byte (((v.toUInt32 >>> ((nI 24).toUInt32 &&& Int32.toUInt32 31)).toInt32).toInt8.toInt32))))] H := hP
  have hD : va_D A [(h0, ob 10 [.ref t0, .int (nI (b + 1)), .ref t2, .ref t3, .ref t4, .ref t5, .ref t6, .int cn]), (t0, aB E 4096 (upd f b (vp_nar .byte (((v.toUInt32 >>> ((nI 24).toUInt32 &&& Int32.toUInt32 31)).toInt32).toInt8.toInt32))))] := hD
  refine lv_iinc (v := nI 16) (lv' := [(2, .int (nI 16)), (0, .ref h0), (1, .int v)]) hx hb dX10_append_40 hl (k := 0) rfl (by decide) (by decide) rfl (fun ls hl => ?_)
  refine lv_goto (tgt := 3) hx hb dX10_append_43 (by decide) ?_
  refine lv_iload_n hx hb dX10_append_3 rfl (lv_at hl 0 rfl) ?_
  refine lv_if_lt (tgt := 46) hx hb dX10_append_4 (by decide) (fun c_3 => absurd c_3 (by decide)) (fun c_3 => ?_)
  refine lv_aload_n hx hb dX10_append_7 rfl (lv_at hl 1 rfl) ?_
  refine va_get (D := E.1) (ci := 10) (v := .int (nI (b + 1))) (C := RX10) (T := TX10) (N := 8) hx hb hts iX10 hown hK hP 0 rfl rfl 1 (by decide) (hts _ wdF_RX10_44) (fun _ h9 => h9) rfl dX10_append_8 ?_
  refine lv_sipush (v := nI 4096) hx hb dX10_append_11 (by decide) ?_
  refine lv_icmp_ge (tgt := 46) hx hb dX10_append_14 (by decide) (fun c_4 => absurd c_4 (nI_ge (by omega) (by decide))) (fun c_4 => ?_)
  refine lv_aload_n hx hb dX10_append_17 rfl (lv_at hl 1 rfl) ?_
  refine va_get (D := E.1) (ci := 10) (v := .ref t0) (C := RX10) (T := TX10) (N := 8) hx hb hts iX10 hown hK hP 0 rfl rfl 0 (by decide) (hts _ wdF_RX10_9) (fun _ h9 => h9) rfl dX10_append_18 ?_
  refine lv_aload_n hx hb dX10_append_21 rfl (lv_at hl 1 rfl) ?_
  refine va_get (D := E.1) (ci := 10) (v := .int (nI (b + 1))) (C := RX10) (T := TX10) (N := 8) hx hb hts iX10 hown hK hP 0 rfl rfl 1 (by decide) (hts _ wdF_RX10_44) (fun _ h9 => h9) rfl dX10_append_22 ?_
  refine lv_iload_n hx hb dX10_append_25 rfl (lv_at hl 2 rfl) ?_
  refine lv_iload_n hx hb dX10_append_26 rfl (lv_at hl 0 rfl) ?_
  refine lv_iushr hx hb dX10_append_27 rfl ?_
  refine lv_i2b hx hb dX10_append_28 rfl ?_
  refine va_bast hx hb hK hP hD hS 1 0 rfl rfl (vp_in_nI (by omega) (by decide)) dX10_append_29 (fun H locs hP hD hS => ?_)
  have hP : va_P E.1 vwCl [(h0, ob 10 [.ref t0, .int (nI (b + 1)), .ref t2, .ref t3, .ref t4, .ref t5, .ref t6, .int cn]), (t0, aB E 4096 (upd (upd f b (vp_nar .byte (((v.toUInt32 >>> ((nI 24).toUInt32 &&& Int32.toUInt32 31)).toInt32).toInt8.toInt32))) (nI (b + 1)).toNatClampNeg (vp_nar .byte (((v.toUInt32 >>> ((nI 16).toUInt32 &&& Int32.toUInt32 31)).toInt32).toInt8.toInt32))))] H := hP
  have hD : va_D A [(h0, ob 10 [.ref t0, .int (nI (b + 1)), .ref t2, .ref t3, .ref t4, .ref t5, .ref t6, .int cn]), (t0, aB E 4096 (upd (upd f b (vp_nar .byte (((v.toUInt32 >>> ((nI 24).toUInt32 &&& Int32.toUInt32 31)).toInt32).toInt8.toInt32))) (nI (b + 1)).toNatClampNeg (vp_nar .byte (((v.toUInt32 >>> ((nI 16).toUInt32 &&& Int32.toUInt32 31)).toInt32).toInt8.toInt32))))] := hD
  rw [nI_clamp (n := (b + 1)) (by omega)] at hP hD
  refine lv_aload_n hx hb dX10_append_30 rfl (lv_at hl 1 rfl) ?_
  refine lv_dup hx hb dX10_append_31 rfl ?_
  refine va_get (D := E.1) (ci := 10) (v := .int (nI (b + 1))) (C := RX10) (T := TX10) (N := 8) hx hb hts iX10 hown hK hP 0 rfl rfl 1 (by decide) (hts _ wdF_RX10_44) (fun _ h9 => h9) rfl dX10_append_32 ?_
  refine lv_iconst (v := nI 1) hx hb dX10_append_35 (by decide) ?_
  refine lv_iadd hx hb dX10_append_36 ?_
  rw [nI_add (b + 1) 1]
  refine va_put (D := E.1) (ci := 10) (v := .int (nI (b + 1 + 1))) (ty := .int) (C := RX10) (T := TX10) (N := 8) hx hb hts iX10 tyX10 tyX10_ok nmX10 hown hK hP hD hS 0 rfl rfl 1 (by decide) (hts _ wdF_RX10_44) (fun _ h9 => h9) rfl (by decide +kernel) rfl rfl (Nat.le_of_ble_eq_true rfl) dX10_append_37 (fun H locs hP hD hS => ?_)
  have hP : va_P E.1 vwCl [(h0, ob 10 [.ref t0, .int (nI (b + 1 + 1)), .ref t2, .ref t3, .ref t4, .ref t5, .ref t6, .int cn]), (t0, aB E 4096 (upd (upd f b (vp_nar .byte (((v.toUInt32 >>> ((nI 24).toUInt32 &&& Int32.toUInt32 31)).toInt32).toInt8.toInt32))) (b + 1) (vp_nar .byte (((v.toUInt32 >>> ((nI 16).toUInt32 &&& Int32.toUInt32 31)).toInt32).toInt8.toInt32))))] H := hP
  have hD : va_D A [(h0, ob 10 [.ref t0, .int (nI (b + 1 + 1)), .ref t2, .ref t3, .ref t4, .ref t5, .ref t6, .int cn]), (t0, aB E 4096 (upd (upd f b (vp_nar .byte (((v.toUInt32 >>> ((nI 24).toUInt32 &&& Int32.toUInt32 31)).toInt32).toInt8.toInt32))) (b + 1) (vp_nar .byte (((v.toUInt32 >>> ((nI 16).toUInt32 &&& Int32.toUInt32 31)).toInt32).toInt8.toInt32))))] := hD
  refine lv_iinc (v := nI 8) (lv' := [(2, .int (nI 8)), (0, .ref h0), (1, .int v)]) hx hb dX10_append_40 hl (k := 0) rfl (by decide) (by decide) rfl (fun ls hl => ?_)
  refine lv_goto (tgt := 3) hx hb dX10_append_43 (by decide) ?_
  refine lv_iload_n hx hb dX10_append_3 rfl (lv_at hl 0 rfl) ?_
  refine lv_if_lt (tgt := 46) hx hb dX10_append_4 (by decide) (fun c_5 => absurd c_5 (by decide)) (fun c_5 => ?_)
  refine lv_aload_n hx hb dX10_append_7 rfl (lv_at hl 1 rfl) ?_
  refine va_get (D := E.1) (ci := 10) (v := .int (nI (b + 1 + 1))) (C := RX10) (T := TX10) (N := 8) hx hb hts iX10 hown hK hP 0 rfl rfl 1 (by decide) (hts _ wdF_RX10_44) (fun _ h9 => h9) rfl dX10_append_8 ?_
  refine lv_sipush (v := nI 4096) hx hb dX10_append_11 (by decide) ?_
  refine lv_icmp_ge (tgt := 46) hx hb dX10_append_14 (by decide) (fun c_6 => absurd c_6 (nI_ge (by omega) (by decide))) (fun c_6 => ?_)
  refine lv_aload_n hx hb dX10_append_17 rfl (lv_at hl 1 rfl) ?_
  refine va_get (D := E.1) (ci := 10) (v := .ref t0) (C := RX10) (T := TX10) (N := 8) hx hb hts iX10 hown hK hP 0 rfl rfl 0 (by decide) (hts _ wdF_RX10_9) (fun _ h9 => h9) rfl dX10_append_18 ?_
  refine lv_aload_n hx hb dX10_append_21 rfl (lv_at hl 1 rfl) ?_
  refine va_get (D := E.1) (ci := 10) (v := .int (nI (b + 1 + 1))) (C := RX10) (T := TX10) (N := 8) hx hb hts iX10 hown hK hP 0 rfl rfl 1 (by decide) (hts _ wdF_RX10_44) (fun _ h9 => h9) rfl dX10_append_22 ?_
  refine lv_iload_n hx hb dX10_append_25 rfl (lv_at hl 2 rfl) ?_
  refine lv_iload_n hx hb dX10_append_26 rfl (lv_at hl 0 rfl) ?_
  refine lv_iushr hx hb dX10_append_27 rfl ?_
  refine lv_i2b hx hb dX10_append_28 rfl ?_
  refine va_bast hx hb hK hP hD hS 1 0 rfl rfl (vp_in_nI (by omega) (by decide)) dX10_append_29 (fun H locs hP hD hS => ?_)
  have hP : va_P E.1 vwCl [(h0, ob 10 [.ref t0, .int (nI (b + 1 + 1)), .ref t2, .ref t3, .ref t4, .ref t5, .ref t6, .int cn]), (t0, aB E 4096 (upd (upd (upd f b (vp_nar .byte (((v.toUInt32 >>> ((nI 24).toUInt32 &&& Int32.toUInt32 31)).toInt32).toInt8.toInt32))) (b + 1) (vp_nar .byte (((v.toUInt32 >>> ((nI 16).toUInt32 &&& Int32.toUInt32 31)).toInt32).toInt8.toInt32))) (nI (b + 1 + 1)).toNatClampNeg (vp_nar .byte (((v.toUInt32 >>> ((nI 8).toUInt32 &&& Int32.toUInt32 31)).toInt32).toInt8.toInt32))))] H := hP
  have hD : va_D A [(h0, ob 10 [.ref t0, .int (nI (b + 1 + 1)), .ref t2, .ref t3, .ref t4, .ref t5, .ref t6, .int cn]), (t0, aB E 4096 (upd (upd (upd f b (vp_nar .byte (((v.toUInt32 >>> ((nI 24).toUInt32 &&& Int32.toUInt32 31)).toInt32).toInt8.toInt32))) (b + 1) (vp_nar .byte (((v.toUInt32 >>> ((nI 16).toUInt32 &&& Int32.toUInt32 31)).toInt32).toInt8.toInt32))) (nI (b + 1 + 1)).toNatClampNeg (vp_nar .byte (((v.toUInt32 >>> ((nI 8).toUInt32 &&& Int32.toUInt32 31)).toInt32).toInt8.toInt32))))] := hD
  rw [nI_clamp (n := (b + 1 + 1)) (by omega)] at hP hD
  refine lv_aload_n hx hb dX10_append_30 rfl (lv_at hl 1 rfl) ?_
  refine lv_dup hx hb dX10_append_31 rfl ?_
  refine va_get (D := E.1) (ci := 10) (v := .int (nI (b + 1 + 1))) (C := RX10) (T := TX10) (N := 8) hx hb hts iX10 hown hK hP 0 rfl rfl 1 (by decide) (hts _ wdF_RX10_44) (fun _ h9 => h9) rfl dX10_append_32 ?_
  refine lv_iconst (v := nI 1) hx hb dX10_append_35 (by decide) ?_
  refine lv_iadd hx hb dX10_append_36 ?_
  rw [nI_add (b + 1 + 1) 1]
  refine va_put (D := E.1) (ci := 10) (v := .int (nI (b + 1 + 1 + 1))) (ty := .int) (C := RX10) (T := TX10) (N := 8) hx hb hts iX10 tyX10 tyX10_ok nmX10 hown hK hP hD hS 0 rfl rfl 1 (by decide) (hts _ wdF_RX10_44) (fun _ h9 => h9) rfl (by decide +kernel) rfl rfl (Nat.le_of_ble_eq_true rfl) dX10_append_37 (fun H locs hP hD hS => ?_)
  have hP : va_P E.1 vwCl [(h0, ob 10 [.ref t0, .int (nI (b + 1 + 1 + 1)), .ref t2, .ref t3, .ref t4, .ref t5, .ref t6, .int cn]), (t0, aB E 4096 (upd (upd (upd f b (vp_nar .byte (((v.toUInt32 >>> ((nI 24).toUInt32 &&& Int32.toUInt32 31)).toInt32).toInt8.toInt32))) (b + 1) (vp_nar .byte (((v.toUInt32 >>> ((nI 16).toUInt32 &&& Int32.toUInt32 31)).toInt32).toInt8.toInt32))) (b + 1 + 1) (vp_nar .byte (((v.toUInt32 >>> ((nI 8).toUInt32 &&& Int32.toUInt32 31)).toInt32).toInt8.toInt32))))] H := hP
  have hD : va_D A [(h0, ob 10 [.ref t0, .int (nI (b + 1 + 1 + 1)), .ref t2, .ref t3, .ref t4, .ref t5, .ref t6, .int cn]), (t0, aB E 4096 (upd (upd (upd f b (vp_nar .byte (((v.toUInt32 >>> ((nI 24).toUInt32 &&& Int32.toUInt32 31)).toInt32).toInt8.toInt32))) (b + 1) (vp_nar .byte (((v.toUInt32 >>> ((nI 16).toUInt32 &&& Int32.toUInt32 31)).toInt32).toInt8.toInt32))) (b + 1 + 1) (vp_nar .byte (((v.toUInt32 >>> ((nI 8).toUInt32 &&& Int32.toUInt32 31)).toInt32).toInt8.toInt32))))] := hD
  refine lv_iinc (v := nI 0) (lv' := [(2, .int (nI 0)), (0, .ref h0), (1, .int v)]) hx hb dX10_append_40 hl (k := 0) rfl (by decide) (by decide) rfl (fun ls hl => ?_)
  refine lv_goto (tgt := 3) hx hb dX10_append_43 (by decide) ?_
  refine lv_iload_n hx hb dX10_append_3 rfl (lv_at hl 0 rfl) ?_
  refine lv_if_lt (tgt := 46) hx hb dX10_append_4 (by decide) (fun c_7 => absurd c_7 (by decide)) (fun c_7 => ?_)
  refine lv_aload_n hx hb dX10_append_7 rfl (lv_at hl 1 rfl) ?_
  refine va_get (D := E.1) (ci := 10) (v := .int (nI (b + 1 + 1 + 1))) (C := RX10) (T := TX10) (N := 8) hx hb hts iX10 hown hK hP 0 rfl rfl 1 (by decide) (hts _ wdF_RX10_44) (fun _ h9 => h9) rfl dX10_append_8 ?_
  refine lv_sipush (v := nI 4096) hx hb dX10_append_11 (by decide) ?_
  refine lv_icmp_ge (tgt := 46) hx hb dX10_append_14 (by decide) (fun c_8 => absurd c_8 (nI_ge (by omega) (by decide))) (fun c_8 => ?_)
  refine lv_aload_n hx hb dX10_append_17 rfl (lv_at hl 1 rfl) ?_
  refine va_get (D := E.1) (ci := 10) (v := .ref t0) (C := RX10) (T := TX10) (N := 8) hx hb hts iX10 hown hK hP 0 rfl rfl 0 (by decide) (hts _ wdF_RX10_9) (fun _ h9 => h9) rfl dX10_append_18 ?_
  refine lv_aload_n hx hb dX10_append_21 rfl (lv_at hl 1 rfl) ?_
  refine va_get (D := E.1) (ci := 10) (v := .int (nI (b + 1 + 1 + 1))) (C := RX10) (T := TX10) (N := 8) hx hb hts iX10 hown hK hP 0 rfl rfl 1 (by decide) (hts _ wdF_RX10_44) (fun _ h9 => h9) rfl dX10_append_22 ?_
  refine lv_iload_n hx hb dX10_append_25 rfl (lv_at hl 2 rfl) ?_
  refine lv_iload_n hx hb dX10_append_26 rfl (lv_at hl 0 rfl) ?_
  refine lv_iushr hx hb dX10_append_27 rfl ?_
  refine lv_i2b hx hb dX10_append_28 rfl ?_
  refine va_bast hx hb hK hP hD hS 1 0 rfl rfl (vp_in_nI (by omega) (by decide)) dX10_append_29 (fun H locs hP hD hS => ?_)
  have hP : va_P E.1 vwCl [(h0, ob 10 [.ref t0, .int (nI (b + 1 + 1 + 1)), .ref t2, .ref t3, .ref t4, .ref t5, .ref t6, .int cn]), (t0, aB E 4096 (upd (upd (upd (upd f b (vp_nar .byte (((v.toUInt32 >>> ((nI 24).toUInt32 &&& Int32.toUInt32 31)).toInt32).toInt8.toInt32))) (b + 1) (vp_nar .byte (((v.toUInt32 >>> ((nI 16).toUInt32 &&& Int32.toUInt32 31)).toInt32).toInt8.toInt32))) (b + 1 + 1) (vp_nar .byte (((v.toUInt32 >>> ((nI 8).toUInt32 &&& Int32.toUInt32 31)).toInt32).toInt8.toInt32))) (nI (b + 1 + 1 + 1)).toNatClampNeg (vp_nar .byte (((v.toUInt32 >>> ((nI 0).toUInt32 &&& Int32.toUInt32 31)).toInt32).toInt8.toInt32))))] H := hP
  have hD : va_D A [(h0, ob 10 [.ref t0, .int (nI (b + 1 + 1 + 1)), .ref t2, .ref t3, .ref t4, .ref t5, .ref t6, .int cn]), (t0, aB E 4096 (upd (upd (upd (upd f b (vp_nar .byte (((v.toUInt32 >>> ((nI 24).toUInt32 &&& Int32.toUInt32 31)).toInt32).toInt8.toInt32))) (b + 1) (vp_nar .byte (((v.toUInt32 >>> ((nI 16).toUInt32 &&& Int32.toUInt32 31)).toInt32).toInt8.toInt32))) (b + 1 + 1) (vp_nar .byte (((v.toUInt32 >>> ((nI 8).toUInt32 &&& Int32.toUInt32 31)).toInt32).toInt8.toInt32))) (nI (b + 1 + 1 + 1)).toNatClampNeg (vp_nar .byte (((v.toUInt32 >>> ((nI 0).toUInt32 &&& Int32.toUInt32 31)).toInt32).toInt8.toInt32))))] := hD
  rw [nI_clamp (n := (b + 1 + 1 + 1)) (by omega)] at hP hD
  refine lv_aload_n hx hb dX10_append_30 rfl (lv_at hl 1 rfl) ?_
  refine lv_dup hx hb dX10_append_31 rfl ?_
  refine va_get (D := E.1) (ci := 10) (v := .int (nI (b + 1 + 1 + 1))) (C := RX10) (T := TX10) (N := 8) hx hb hts iX10 hown hK hP 0 rfl rfl 1 (by decide) (hts _ wdF_RX10_44) (fun _ h9 => h9) rfl dX10_append_32 ?_
  refine lv_iconst (v := nI 1) hx hb dX10_append_35 (by decide) ?_
  refine lv_iadd hx hb dX10_append_36 ?_
  rw [nI_add (b + 1 + 1 + 1) 1]
  refine va_put (D := E.1) (ci := 10) (v := .int (nI (b + 1 + 1 + 1 + 1))) (ty := .int) (C := RX10) (T := TX10) (N := 8) hx hb hts iX10 tyX10 tyX10_ok nmX10 hown hK hP hD hS 0 rfl rfl 1 (by decide) (hts _ wdF_RX10_44) (fun _ h9 => h9) rfl (by decide +kernel) rfl rfl (Nat.le_of_ble_eq_true rfl) dX10_append_37 (fun H locs hP hD hS => ?_)
  have hP : va_P E.1 vwCl [(h0, ob 10 [.ref t0, .int (nI (b + 1 + 1 + 1 + 1)), .ref t2, .ref t3, .ref t4, .ref t5, .ref t6, .int cn]), (t0, aB E 4096 (upd (upd (upd (upd f b (vp_nar .byte (((v.toUInt32 >>> ((nI 24).toUInt32 &&& Int32.toUInt32 31)).toInt32).toInt8.toInt32))) (b + 1) (vp_nar .byte (((v.toUInt32 >>> ((nI 16).toUInt32 &&& Int32.toUInt32 31)).toInt32).toInt8.toInt32))) (b + 1 + 1) (vp_nar .byte (((v.toUInt32 >>> ((nI 8).toUInt32 &&& Int32.toUInt32 31)).toInt32).toInt8.toInt32))) (b + 1 + 1 + 1) (vp_nar .byte (((v.toUInt32 >>> ((nI 0).toUInt32 &&& Int32.toUInt32 31)).toInt32).toInt8.toInt32))))] H := hP
  have hD : va_D A [(h0, ob 10 [.ref t0, .int (nI (b + 1 + 1 + 1 + 1)), .ref t2, .ref t3, .ref t4, .ref t5, .ref t6, .int cn]), (t0, aB E 4096 (upd (upd (upd (upd f b (vp_nar .byte (((v.toUInt32 >>> ((nI 24).toUInt32 &&& Int32.toUInt32 31)).toInt32).toInt8.toInt32))) (b + 1) (vp_nar .byte (((v.toUInt32 >>> ((nI 16).toUInt32 &&& Int32.toUInt32 31)).toInt32).toInt8.toInt32))) (b + 1 + 1) (vp_nar .byte (((v.toUInt32 >>> ((nI 8).toUInt32 &&& Int32.toUInt32 31)).toInt32).toInt8.toInt32))) (b + 1 + 1 + 1) (vp_nar .byte (((v.toUInt32 >>> ((nI 0).toUInt32 &&& Int32.toUInt32 31)).toInt32).toInt8.toInt32))))] := hD
  refine lv_iinc (v := (-8)) (lv' := [(2, .int (-8)), (0, .ref h0), (1, .int v)]) hx hb dX10_append_40 hl (k := 0) rfl (by decide) (by decide) rfl (fun ls hl => ?_)
  refine lv_goto (tgt := 3) hx hb dX10_append_43 (by decide) ?_
  refine lv_iload_n hx hb dX10_append_3 rfl (lv_at hl 0 rfl) ?_
  refine lv_if_lt (tgt := 46) hx hb dX10_append_4 (by decide) (fun c_9 => ?_) (fun c_9 => absurd c_9 (by decide))
  exact cV_ret F hP hD hS hK () trivial [0, 1] rfl rfl dX10_append_46 (by decide) (by decide)
theorem yy_X10_append : cY yX10_append cX10_append 3 none 1 := ⟨wdK_X10_append, wdZ_RX10, by decide +kernel⟩
theorem yi_X10_append : cYi yX10_append := ⟨wdN_X10_append, wdS_X10_append⟩
theorem dX10_cut_0 : decode cX10_cut 0 = .ok (.iload_n 1, 1) := by decide +kernel
theorem dX10_cut_1 : decode cX10_cut 1 = .ok (.ifCond .lt 11, 3) := by decide +kernel
theorem dX10_cut_4 : decode cX10_cut 4 = .ok (.iload_n 1, 1) := by decide +kernel
theorem dX10_cut_5 : decode cX10_cut 5 = .ok (.aload_n 0, 1) := by decide +kernel
theorem dX10_cut_6 : decode cX10_cut 6 = .ok (.getfield 44, 3) := by decide +kernel
theorem dX10_cut_9 : decode cX10_cut 9 = .ok (.if_icmp .le 5, 3) := by decide +kernel
theorem dX10_cut_12 : decode cX10_cut 12 = .ok (.iconst 0, 1) := by decide +kernel
theorem dX10_cut_13 : decode cX10_cut 13 = .ok (.ireturn, 1) := by decide +kernel
theorem dX10_cut_14 : decode cX10_cut 14 = .ok (.aload_n 0, 1) := by decide +kernel
theorem dX10_cut_15 : decode cX10_cut 15 = .ok (.iload_n 1, 1) := by decide +kernel
theorem dX10_cut_16 : decode cX10_cut 16 = .ok (.putfield 44, 3) := by decide +kernel
theorem dX10_cut_19 : decode cX10_cut 19 = .ok (.iconst 1, 1) := by decide +kernel
theorem dX10_cut_20 : decode cX10_cut 20 = .ok (.ireturn, 1) := by decide +kernel
abbrev rm_c_X10_cut : Room := { frames := 0, cells := 0, slots := 0, locals := 0 }
set_option maxHeartbeats 4000000 in
set_option maxRecDepth 100000 in
/-- the first n bytes alone -/
theorem c_X10_cut (l : Launch) (E : cE) (h0 : Nat) (t0 : Nat) (t2 : Nat) (t3 : Nat) (t4 : Nat) (t5 : Nat) (t6 : Nat) (b : Nat) (cn : Int32) (n : Int32) : cM l E yX10_cut cX10_cut 2 (some .boolean) rm_c_X10_cut [.ref h0, .int n] [(h0, ob 10 [.ref t0, .int (nI b), .ref t2, .ref t3, .ref t4, .ref t5, .ref t6, .int cn])] (qI E (fun (r : Int32) (b2 : Int32) => (n < 0 ∨ nI b < n) ∧ r = 0 ∧ b2 = nI b ∨ ¬ (n < 0 ∨ nI b < n) ∧ r = 1 ∧ b2 = n) (fun (b2 : Int32) => [(h0, ob 10 [.ref t0, .int b2, .ref t2, .ref t3, .ref t4, .ref t5, .ref t6, .int cn])])) := by
  refine cM_of (by decide) (Nat.le_of_ble_eq_true rfl) ?_
  intro p e s m below meth c ls A F hA hS hP hD hK hZ hl
  obtain ⟨hx, hb, hr, hml, hown, hts, hlk, hin⟩ := id F
  have hown : s.vm.findClass RX10 = some m.cls := hown
  have hl : lv_has ls 2 [(0, .ref h0), (1, .int n)] := hl
  refine lv_iload_n hx hb dX10_cut_0 rfl (lv_at hl 1 rfl) ?_
  refine lv_if_lt (tgt := 12) hx hb dX10_cut_1 (by decide) (fun c1 => ?_) (fun c1 => ?_)
  · refine lv_iconst (v := nI 0) hx hb dX10_cut_12 (by decide) ?_
    exact cB_ret F hP hD hS hK (by decide) (nI b) (Or.inl ⟨Or.inl c1, rfl, rfl⟩) [0] rfl rfl dX10_cut_13 (by decide) (by decide)
  · refine lv_iload_n hx hb dX10_cut_4 rfl (lv_at hl 1 rfl) ?_
    refine lv_aload_n hx hb dX10_cut_5 rfl (lv_at hl 0 rfl) ?_
    refine va_get (D := E.1) (ci := 10) (v := .int (nI b)) (C := RX10) (T := TX10) (N := 8) hx hb hts iX10 hown hK hP 0 rfl rfl 1 (by decide) (hts _ wdF_RX10_44) (fun _ h9 => h9) rfl dX10_cut_6 ?_
    refine lv_icmp_le (tgt := 14) hx hb dX10_cut_9 (by decide) (fun c2 => ?_) (fun c2 => ?_)
    · refine lv_aload_n hx hb dX10_cut_14 rfl (lv_at hl 0 rfl) ?_
      refine lv_iload_n hx hb dX10_cut_15 rfl (lv_at hl 1 rfl) ?_
      refine va_put (D := E.1) (ci := 10) (v := .int n) (ty := .int) (C := RX10) (T := TX10) (N := 8) hx hb hts iX10 tyX10 tyX10_ok nmX10 hown hK hP hD hS 0 rfl rfl 1 (by decide) (hts _ wdF_RX10_44) (fun _ h9 => h9) rfl (by decide +kernel) rfl rfl (Nat.le_of_ble_eq_true rfl) dX10_cut_16 (fun H locs hP hD hS => ?_)
      have hP : va_P E.1 vwCl [(h0, ob 10 [.ref t0, .int n, .ref t2, .ref t3, .ref t4, .ref t5, .ref t6, .int cn])] H := hP
      have hD : va_D A [(h0, ob 10 [.ref t0, .int n, .ref t2, .ref t3, .ref t4, .ref t5, .ref t6, .int cn])] := hD
      refine lv_iconst (v := nI 1) hx hb dX10_cut_19 (by decide) ?_
      exact cB_ret F hP hD hS hK (by decide) n (Or.inr ⟨fun h => h.elim c1 (fun h2 => absurd c2 (Int32.not_le.mpr h2)), rfl, rfl⟩) [0] rfl rfl dX10_cut_20 (by decide) (by decide)
    · refine lv_iconst (v := nI 0) hx hb dX10_cut_12 (by decide) ?_
      exact cB_ret F hP hD hS hK (by decide) (nI b) (Or.inl ⟨Or.inr (Int32.not_le.mp c2), rfl, rfl⟩) [0] rfl rfl dX10_cut_13 (by decide) (by decide)
theorem yy_X10_cut : cY yX10_cut cX10_cut 2 (some .boolean) 1 := ⟨wdK_X10_cut, wdZ_RX10, by decide +kernel⟩
theorem yi_X10_cut : cYi yX10_cut := ⟨wdN_X10_cut, wdS_X10_cut⟩
