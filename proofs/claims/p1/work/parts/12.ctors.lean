theorem dX6_init_0 : decode cX6_init 0 = .ok (.aload_n 0, 1) := by decide +kernel
theorem dX6_init_1 : decode cX6_init 1 = .ok (.invokespecial 3, 3) := by decide +kernel
theorem dX6_init_4 : decode cX6_init 4 = .ok (.aload_n 0, 1) := by decide +kernel
theorem dX6_init_5 : decode cX6_init 5 = .ok (.iload_n 1, 1) := by decide +kernel
theorem dX6_init_6 : decode cX6_init 6 = .ok (.putfield 9, 3) := by decide +kernel
theorem dX6_init_9 : decode cX6_init 9 = .ok (.aload_n 0, 1) := by decide +kernel
theorem dX6_init_10 : decode cX6_init 10 = .ok (.iconst 3, 1) := by decide +kernel
theorem dX6_init_11 : decode cX6_init 11 = .ok (.iload_n 1, 1) := by decide +kernel
theorem dX6_init_12 : decode cX6_init 12 = .ok (.imul, 1) := by decide +kernel
theorem dX6_init_13 : decode cX6_init 13 = .ok (.newarray .long, 2) := by decide +kernel
theorem dX6_init_15 : decode cX6_init 15 = .ok (.putfield 15, 3) := by decide +kernel
theorem dX6_init_18 : decode cX6_init 18 = .ok (.return_, 1) := by decide +kernel
abbrev rm_c_X6_init_40 : Room := { frames := 1, cells := 1, slots := 120, locals := 20 }
set_option maxHeartbeats 4000000 in
set_option maxRecDepth 100000 in
theorem c_X6_init_40 (l : Launch) (E : cE) (h0 : Nat) : cM l E yX6_init cX6_init 2 none rm_c_X6_init_40 [.ref h0, .int (nI 40)] [(h0, ob 6 [.null, .int 0, .int 0])] (qV E (fun (q_1 : Nat) => True) (fun (q_1 : Nat) => [(h0, ob 6 [.ref q_1, .int (nI 40), .int 0]), (q_1, aJ E 120 (fun _ => 0))])) := by
  refine cM_of (by decide) (Nat.le_of_ble_eq_true rfl) ?_
  intro p e s m below meth c ls A F hA hS hP hD hK hZ hl
  obtain ⟨hx, hb, hr, hml, hown, hts, hlk, hin⟩ := id F
  have hown : s.vm.findClass RX6 = some m.cls := hown
  have hin : meth.name = "<init>" := hin
  have hl : lv_has ls 2 [(0, .ref h0), (1, .int (nI 40))] := hl
  refine lv_aload_n hx hb dX6_init_0 rfl (lv_at hl 0 rfl) ?_
  refine W.objInit hx hb hown (hts _ wdM_RX6_3) (hts _ wd_oi) (hts _ wd_oc) rfl (by rw [hml]; exact hl.1) rfl dX6_init_1 (by decide) (Nat.le_of_ble_eq_true rfl) ?_
  refine W.eq (g2 := F0 m 4 ls []) rfl ?_
  refine lv_aload_n hx hb dX6_init_4 rfl (lv_at hl 0 rfl) ?_
  refine lv_iload_n hx hb dX6_init_5 rfl (lv_at hl 1 rfl) ?_
  refine va_putF (D := E.1) (ci := 6) (v := .int (nI 40)) (ty := .int) (C := RX6) (T := TX6) (N := 3) hx hb hts iX6 tyX6 tyX6_ok nmX6 hown hK hP hD hS 0 rfl rfl 1 (by decide) (hts _ wdF_RX6_9) (fun _ h9 => h9) rfl hin rfl (by decide +kernel) rfl rfl (Nat.le_of_ble_eq_true rfl) dX6_init_6 (fun H locs hP hD hS => ?_)
  have hP : va_P E.1 vwCl [(h0, ob 6 [.null, .int (nI 40), .int 0])] H := hP
  have hD : va_D A [(h0, ob 6 [.null, .int (nI 40), .int 0])] := hD
  refine lv_aload_n hx hb dX6_init_9 rfl (lv_at hl 0 rfl) ?_
  refine lv_iconst (v := nI 3) hx hb dX6_init_10 (by decide) ?_
  refine lv_iload_n hx hb dX6_init_11 rfl (lv_at hl 1 rfl) ?_
  refine lv_imul hx hb dX6_init_12 ?_
  rw [show ((nI 3) * (nI 40) : Int32) = nI 120 from by decide]
  refine cw_newa (E := E) (atype := .long) (ty := .long) (a0 := (120, .inr (.inl (fun _ => 0)))) hx hb (hts _ wdA_long) rfl hK hP hD hS hA 2 rfl rfl (fun _ => rfl) (by decide) (by decide) (by decide) (by decide) (by decide) dX6_init_13 (fun q_1 H hP hD hS => ?_)
  have hP : va_P E.1 vwCl [(h0, ob 6 [.null, .int (nI 40), .int 0]), (q_1, aJ E 120 (fun _ => 0))] H := hP
  have hD : va_D A [(h0, ob 6 [.null, .int (nI 40), .int 0]), (q_1, aJ E 120 (fun _ => 0))] := hD
  refine W.widen (k := 1) (n := 120) (by decide) (by decide) ?_
  refine va_putF (D := E.1) (ci := 6) (v := .ref q_1) (ty := .array .long) (C := RX6) (T := TX6) (N := 3) hx hb hts iX6 tyX6 tyX6_ok nmX6 hown hK hP hD hS 0 rfl rfl 0 (by decide) (hts _ wdF_RX6_15) (fun _ h9 => h9) rfl hin rfl (by decide +kernel) rfl rfl (Nat.le_of_ble_eq_true rfl) dX6_init_15 (fun H locs hP hD hS => ?_)
  have hP : va_P E.1 vwCl [(h0, ob 6 [.ref q_1, .int (nI 40), .int 0]), (q_1, aJ E 120 (fun _ => 0))] H := hP
  have hD : va_D A [(h0, ob 6 [.ref q_1, .int (nI 40), .int 0]), (q_1, aJ E 120 (fun _ => 0))] := hD
  exact cV_ret F hP hD hS hK (q_1) trivial [0, 1] rfl rfl dX6_init_18 (by decide) (by decide)
theorem yy_X6_init : cY yX6_init cX6_init 2 none 1 := ⟨wdK_X6_init, wdZ_RX6, by decide +kernel⟩
abbrev rm_c_X6_init_100 : Room := { frames := 1, cells := 1, slots := 300, locals := 20 }
set_option maxHeartbeats 4000000 in
set_option maxRecDepth 100000 in
theorem c_X6_init_100 (l : Launch) (E : cE) (h0 : Nat) : cM l E yX6_init cX6_init 2 none rm_c_X6_init_100 [.ref h0, .int (nI 100)] [(h0, ob 6 [.null, .int 0, .int 0])] (qV E (fun (q_2 : Nat) => True) (fun (q_2 : Nat) => [(h0, ob 6 [.ref q_2, .int (nI 100), .int 0]), (q_2, aJ E 300 (fun _ => 0))])) := by
  refine cM_of (by decide) (Nat.le_of_ble_eq_true rfl) ?_
  intro p e s m below meth c ls A F hA hS hP hD hK hZ hl
  obtain ⟨hx, hb, hr, hml, hown, hts, hlk, hin⟩ := id F
  have hown : s.vm.findClass RX6 = some m.cls := hown
  have hin : meth.name = "<init>" := hin
  have hl : lv_has ls 2 [(0, .ref h0), (1, .int (nI 100))] := hl
  refine lv_aload_n hx hb dX6_init_0 rfl (lv_at hl 0 rfl) ?_
  refine W.objInit hx hb hown (hts _ wdM_RX6_3) (hts _ wd_oi) (hts _ wd_oc) rfl (by rw [hml]; exact hl.1) rfl dX6_init_1 (by decide) (Nat.le_of_ble_eq_true rfl) ?_
  refine W.eq (g2 := F0 m 4 ls []) rfl ?_
  refine lv_aload_n hx hb dX6_init_4 rfl (lv_at hl 0 rfl) ?_
  refine lv_iload_n hx hb dX6_init_5 rfl (lv_at hl 1 rfl) ?_
  refine va_putF (D := E.1) (ci := 6) (v := .int (nI 100)) (ty := .int) (C := RX6) (T := TX6) (N := 3) hx hb hts iX6 tyX6 tyX6_ok nmX6 hown hK hP hD hS 0 rfl rfl 1 (by decide) (hts _ wdF_RX6_9) (fun _ h9 => h9) rfl hin rfl (by decide +kernel) rfl rfl (Nat.le_of_ble_eq_true rfl) dX6_init_6 (fun H locs hP hD hS => ?_)
  have hP : va_P E.1 vwCl [(h0, ob 6 [.null, .int (nI 100), .int 0])] H := hP
  have hD : va_D A [(h0, ob 6 [.null, .int (nI 100), .int 0])] := hD
  refine lv_aload_n hx hb dX6_init_9 rfl (lv_at hl 0 rfl) ?_
  refine lv_iconst (v := nI 3) hx hb dX6_init_10 (by decide) ?_
  refine lv_iload_n hx hb dX6_init_11 rfl (lv_at hl 1 rfl) ?_
  refine lv_imul hx hb dX6_init_12 ?_
  rw [show ((nI 3) * (nI 100) : Int32) = nI 300 from by decide]
  refine cw_newa (E := E) (atype := .long) (ty := .long) (a0 := (300, .inr (.inl (fun _ => 0)))) hx hb (hts _ wdA_long) rfl hK hP hD hS hA 2 rfl rfl (fun _ => rfl) (by decide) (by decide) (by decide) (by decide) (by decide) dX6_init_13 (fun q_2 H hP hD hS => ?_)
  have hP : va_P E.1 vwCl [(h0, ob 6 [.null, .int (nI 100), .int 0]), (q_2, aJ E 300 (fun _ => 0))] H := hP
  have hD : va_D A [(h0, ob 6 [.null, .int (nI 100), .int 0]), (q_2, aJ E 300 (fun _ => 0))] := hD
  refine W.widen (k := 1) (n := 300) (by decide) (by decide) ?_
  refine va_putF (D := E.1) (ci := 6) (v := .ref q_2) (ty := .array .long) (C := RX6) (T := TX6) (N := 3) hx hb hts iX6 tyX6 tyX6_ok nmX6 hown hK hP hD hS 0 rfl rfl 0 (by decide) (hts _ wdF_RX6_15) (fun _ h9 => h9) rfl hin rfl (by decide +kernel) rfl rfl (Nat.le_of_ble_eq_true rfl) dX6_init_15 (fun H locs hP hD hS => ?_)
  have hP : va_P E.1 vwCl [(h0, ob 6 [.ref q_2, .int (nI 100), .int 0]), (q_2, aJ E 300 (fun _ => 0))] H := hP
  have hD : va_D A [(h0, ob 6 [.ref q_2, .int (nI 100), .int 0]), (q_2, aJ E 300 (fun _ => 0))] := hD
  exact cV_ret F hP hD hS hK (q_2) trivial [0, 1] rfl rfl dX6_init_18 (by decide) (by decide)
abbrev rm_c_X6_init_60 : Room := { frames := 1, cells := 1, slots := 180, locals := 20 }
set_option maxHeartbeats 4000000 in
set_option maxRecDepth 100000 in
theorem c_X6_init_60 (l : Launch) (E : cE) (h0 : Nat) : cM l E yX6_init cX6_init 2 none rm_c_X6_init_60 [.ref h0, .int (nI 60)] [(h0, ob 6 [.null, .int 0, .int 0])] (qV E (fun (q_3 : Nat) => True) (fun (q_3 : Nat) => [(h0, ob 6 [.ref q_3, .int (nI 60), .int 0]), (q_3, aJ E 180 (fun _ => 0))])) := by
  refine cM_of (by decide) (Nat.le_of_ble_eq_true rfl) ?_
  intro p e s m below meth c ls A F hA hS hP hD hK hZ hl
  obtain ⟨hx, hb, hr, hml, hown, hts, hlk, hin⟩ := id F
  have hown : s.vm.findClass RX6 = some m.cls := hown
  have hin : meth.name = "<init>" := hin
  have hl : lv_has ls 2 [(0, .ref h0), (1, .int (nI 60))] := hl
  refine lv_aload_n hx hb dX6_init_0 rfl (lv_at hl 0 rfl) ?_
  refine W.objInit hx hb hown (hts _ wdM_RX6_3) (hts _ wd_oi) (hts _ wd_oc) rfl (by rw [hml]; exact hl.1) rfl dX6_init_1 (by decide) (Nat.le_of_ble_eq_true rfl) ?_
  refine W.eq (g2 := F0 m 4 ls []) rfl ?_
  refine lv_aload_n hx hb dX6_init_4 rfl (lv_at hl 0 rfl) ?_
  refine lv_iload_n hx hb dX6_init_5 rfl (lv_at hl 1 rfl) ?_
  refine va_putF (D := E.1) (ci := 6) (v := .int (nI 60)) (ty := .int) (C := RX6) (T := TX6) (N := 3) hx hb hts iX6 tyX6 tyX6_ok nmX6 hown hK hP hD hS 0 rfl rfl 1 (by decide) (hts _ wdF_RX6_9) (fun _ h9 => h9) rfl hin rfl (by decide +kernel) rfl rfl (Nat.le_of_ble_eq_true rfl) dX6_init_6 (fun H locs hP hD hS => ?_)
  have hP : va_P E.1 vwCl [(h0, ob 6 [.null, .int (nI 60), .int 0])] H := hP
  have hD : va_D A [(h0, ob 6 [.null, .int (nI 60), .int 0])] := hD
  refine lv_aload_n hx hb dX6_init_9 rfl (lv_at hl 0 rfl) ?_
  refine lv_iconst (v := nI 3) hx hb dX6_init_10 (by decide) ?_
  refine lv_iload_n hx hb dX6_init_11 rfl (lv_at hl 1 rfl) ?_
  refine lv_imul hx hb dX6_init_12 ?_
  rw [show ((nI 3) * (nI 60) : Int32) = nI 180 from by decide]
  refine cw_newa (E := E) (atype := .long) (ty := .long) (a0 := (180, .inr (.inl (fun _ => 0)))) hx hb (hts _ wdA_long) rfl hK hP hD hS hA 2 rfl rfl (fun _ => rfl) (by decide) (by decide) (by decide) (by decide) (by decide) dX6_init_13 (fun q_3 H hP hD hS => ?_)
  have hP : va_P E.1 vwCl [(h0, ob 6 [.null, .int (nI 60), .int 0]), (q_3, aJ E 180 (fun _ => 0))] H := hP
  have hD : va_D A [(h0, ob 6 [.null, .int (nI 60), .int 0]), (q_3, aJ E 180 (fun _ => 0))] := hD
  refine W.widen (k := 1) (n := 180) (by decide) (by decide) ?_
  refine va_putF (D := E.1) (ci := 6) (v := .ref q_3) (ty := .array .long) (C := RX6) (T := TX6) (N := 3) hx hb hts iX6 tyX6 tyX6_ok nmX6 hown hK hP hD hS 0 rfl rfl 0 (by decide) (hts _ wdF_RX6_15) (fun _ h9 => h9) rfl hin rfl (by decide +kernel) rfl rfl (Nat.le_of_ble_eq_true rfl) dX6_init_15 (fun H locs hP hD hS => ?_)
  have hP : va_P E.1 vwCl [(h0, ob 6 [.ref q_3, .int (nI 60), .int 0]), (q_3, aJ E 180 (fun _ => 0))] H := hP
  have hD : va_D A [(h0, ob 6 [.ref q_3, .int (nI 60), .int 0]), (q_3, aJ E 180 (fun _ => 0))] := hD
  exact cV_ret F hP hD hS hK (q_3) trivial [0, 1] rfl rfl dX6_init_18 (by decide) (by decide)
theorem dX0_init_0 : decode cX0_init 0 = .ok (.aload_n 0, 1) := by decide +kernel
theorem dX0_init_1 : decode cX0_init 1 = .ok (.invokespecial 3, 3) := by decide +kernel
theorem dX0_init_4 : decode cX0_init 4 = .ok (.aload_n 0, 1) := by decide +kernel
theorem dX0_init_5 : decode cX0_init 5 = .ok (.new 9, 3) := by decide +kernel
theorem dX0_init_8 : decode cX0_init 8 = .ok (.dup, 1) := by decide +kernel
theorem dX0_init_9 : decode cX0_init 9 = .ok (.bipush 40, 2) := by decide +kernel
theorem dX0_init_11 : decode cX0_init 11 = .ok (.invokespecial 11, 3) := by decide +kernel
theorem dX0_init_14 : decode cX0_init 14 = .ok (.putfield 14, 3) := by decide +kernel
theorem dX0_init_17 : decode cX0_init 17 = .ok (.aload_n 0, 1) := by decide +kernel
theorem dX0_init_18 : decode cX0_init 18 = .ok (.new 9, 3) := by decide +kernel
theorem dX0_init_21 : decode cX0_init 21 = .ok (.dup, 1) := by decide +kernel
theorem dX0_init_22 : decode cX0_init 22 = .ok (.bipush 100, 2) := by decide +kernel
theorem dX0_init_24 : decode cX0_init 24 = .ok (.invokespecial 11, 3) := by decide +kernel
theorem dX0_init_27 : decode cX0_init 27 = .ok (.putfield 20, 3) := by decide +kernel
theorem dX0_init_30 : decode cX0_init 30 = .ok (.aload_n 0, 1) := by decide +kernel
theorem dX0_init_31 : decode cX0_init 31 = .ok (.new 9, 3) := by decide +kernel
theorem dX0_init_34 : decode cX0_init 34 = .ok (.dup, 1) := by decide +kernel
theorem dX0_init_35 : decode cX0_init 35 = .ok (.bipush 60, 2) := by decide +kernel
theorem dX0_init_37 : decode cX0_init 37 = .ok (.invokespecial 11, 3) := by decide +kernel
theorem dX0_init_40 : decode cX0_init 40 = .ok (.putfield 23, 3) := by decide +kernel
theorem dX0_init_43 : decode cX0_init 43 = .ok (.aload_n 0, 1) := by decide +kernel
theorem dX0_init_44 : decode cX0_init 44 = .ok (.bipush 40, 2) := by decide +kernel
theorem dX0_init_46 : decode cX0_init 46 = .ok (.newarray .int, 2) := by decide +kernel
theorem dX0_init_48 : decode cX0_init 48 = .ok (.putfield 26, 3) := by decide +kernel
theorem dX0_init_51 : decode cX0_init 51 = .ok (.aload_n 0, 1) := by decide +kernel
theorem dX0_init_52 : decode cX0_init 52 = .ok (.sipush 1280, 3) := by decide +kernel
theorem dX0_init_55 : decode cX0_init 55 = .ok (.newarray .int, 2) := by decide +kernel
theorem dX0_init_57 : decode cX0_init 57 = .ok (.putfield 30, 3) := by decide +kernel
theorem dX0_init_60 : decode cX0_init 60 = .ok (.aload_n 0, 1) := by decide +kernel
theorem dX0_init_61 : decode cX0_init 61 = .ok (.sipush 1280, 3) := by decide +kernel
theorem dX0_init_64 : decode cX0_init 64 = .ok (.newarray .int, 2) := by decide +kernel
theorem dX0_init_66 : decode cX0_init 66 = .ok (.putfield 33, 3) := by decide +kernel
theorem dX0_init_69 : decode cX0_init 69 = .ok (.aload_n 0, 1) := by decide +kernel
theorem dX0_init_70 : decode cX0_init 70 = .ok (.sipush 320, 3) := by decide +kernel
theorem dX0_init_73 : decode cX0_init 73 = .ok (.newarray .int, 2) := by decide +kernel
theorem dX0_init_75 : decode cX0_init 75 = .ok (.putfield 36, 3) := by decide +kernel
theorem dX0_init_78 : decode cX0_init 78 = .ok (.aload_n 0, 1) := by decide +kernel
theorem dX0_init_79 : decode cX0_init 79 = .ok (.bipush 100, 2) := by decide +kernel
theorem dX0_init_81 : decode cX0_init 81 = .ok (.newarray .int, 2) := by decide +kernel
theorem dX0_init_83 : decode cX0_init 83 = .ok (.putfield 39, 3) := by decide +kernel
theorem dX0_init_86 : decode cX0_init 86 = .ok (.aload_n 0, 1) := by decide +kernel
theorem dX0_init_87 : decode cX0_init 87 = .ok (.bipush 100, 2) := by decide +kernel
theorem dX0_init_89 : decode cX0_init 89 = .ok (.newarray .int, 2) := by decide +kernel
theorem dX0_init_91 : decode cX0_init 91 = .ok (.putfield 42, 3) := by decide +kernel
theorem dX0_init_94 : decode cX0_init 94 = .ok (.aload_n 0, 1) := by decide +kernel
theorem dX0_init_95 : decode cX0_init 95 = .ok (.bipush 100, 2) := by decide +kernel
theorem dX0_init_97 : decode cX0_init 97 = .ok (.newarray .int, 2) := by decide +kernel
theorem dX0_init_99 : decode cX0_init 99 = .ok (.putfield 45, 3) := by decide +kernel
theorem dX0_init_102 : decode cX0_init 102 = .ok (.aload_n 0, 1) := by decide +kernel
theorem dX0_init_103 : decode cX0_init 103 = .ok (.sipush 800, 3) := by decide +kernel
theorem dX0_init_106 : decode cX0_init 106 = .ok (.newarray .int, 2) := by decide +kernel
theorem dX0_init_108 : decode cX0_init 108 = .ok (.putfield 48, 3) := by decide +kernel
theorem dX0_init_111 : decode cX0_init 111 = .ok (.aload_n 0, 1) := by decide +kernel
theorem dX0_init_112 : decode cX0_init 112 = .ok (.sipush 800, 3) := by decide +kernel
theorem dX0_init_115 : decode cX0_init 115 = .ok (.newarray .int, 2) := by decide +kernel
theorem dX0_init_117 : decode cX0_init 117 = .ok (.putfield 51, 3) := by decide +kernel
theorem dX0_init_120 : decode cX0_init 120 = .ok (.aload_n 0, 1) := by decide +kernel
theorem dX0_init_121 : decode cX0_init 121 = .ok (.sipush 800, 3) := by decide +kernel
theorem dX0_init_124 : decode cX0_init 124 = .ok (.newarray .int, 2) := by decide +kernel
theorem dX0_init_126 : decode cX0_init 126 = .ok (.putfield 54, 3) := by decide +kernel
theorem dX0_init_129 : decode cX0_init 129 = .ok (.aload_n 0, 1) := by decide +kernel
theorem dX0_init_130 : decode cX0_init 130 = .ok (.bipush 60, 2) := by decide +kernel
theorem dX0_init_132 : decode cX0_init 132 = .ok (.newarray .int, 2) := by decide +kernel
theorem dX0_init_134 : decode cX0_init 134 = .ok (.putfield 57, 3) := by decide +kernel
theorem dX0_init_137 : decode cX0_init 137 = .ok (.aload_n 0, 1) := by decide +kernel
theorem dX0_init_138 : decode cX0_init 138 = .ok (.bipush 32, 2) := by decide +kernel
theorem dX0_init_140 : decode cX0_init 140 = .ok (.newarray .int, 2) := by decide +kernel
theorem dX0_init_142 : decode cX0_init 142 = .ok (.putfield 60, 3) := by decide +kernel
theorem dX0_init_145 : decode cX0_init 145 = .ok (.aload_n 0, 1) := by decide +kernel
theorem dX0_init_146 : decode cX0_init 146 = .ok (.bipush 32, 2) := by decide +kernel
theorem dX0_init_148 : decode cX0_init 148 = .ok (.newarray .int, 2) := by decide +kernel
theorem dX0_init_150 : decode cX0_init 150 = .ok (.putfield 63, 3) := by decide +kernel
theorem dX0_init_153 : decode cX0_init 153 = .ok (.aload_n 0, 1) := by decide +kernel
theorem dX0_init_154 : decode cX0_init 154 = .ok (.sipush 10098, 3) := by decide +kernel
theorem dX0_init_157 : decode cX0_init 157 = .ok (.newarray .int, 2) := by decide +kernel
theorem dX0_init_159 : decode cX0_init 159 = .ok (.putfield 66, 3) := by decide +kernel
theorem dX0_init_162 : decode cX0_init 162 = .ok (.return_, 1) := by decide +kernel
abbrev rm_c_X0_init : Room := { frames := 2, cells := 20, slots := 16451, locals := 41 }
set_option maxHeartbeats 4000000 in
set_option maxRecDepth 100000 in
theorem c_X0_init (l : Launch) (E : cE) (h0 : Nat) : cM l E yX0_init cX0_init 1 none rm_c_X0_init [.ref h0] [(h0, ob 0 [.null, .null, .null, .null, .null, .null, .null, .null, .null, .null, .null, .null, .null, .null, .null, .null, .int 0, .null, .int 0, .int 0])] (qV E (fun (u : Nat × Nat × Nat × Nat × Nat × Nat × Nat × Nat × Nat × Nat × Nat × Nat × Nat × Nat × Nat × Nat × Nat × Nat × Nat × Nat) => match u with | (q_4, q_1_8, q_9, q_2_13, q_14, q_3_18, q_19, q_20, q_21, q_22, q_23, q_24, q_25, q_26, q_27, q_28, q_29, q_30, q_31, q_32) => True) (fun (u : Nat × Nat × Nat × Nat × Nat × Nat × Nat × Nat × Nat × Nat × Nat × Nat × Nat × Nat × Nat × Nat × Nat × Nat × Nat × Nat) => match u with | (q_4, q_1_8, q_9, q_2_13, q_14, q_3_18, q_19, q_20, q_21, q_22, q_23, q_24, q_25, q_26, q_27, q_28, q_29, q_30, q_31, q_32) => [(h0, ob 0 [.ref q_4, .ref q_9, .ref q_14, .ref q_19, .ref q_20, .ref q_21, .ref q_22, .ref q_23, .ref q_24, .ref q_25, .ref q_26, .ref q_27, .ref q_28, .ref q_29, .ref q_30, .ref q_31, .int 0, .ref q_32, .int 0, .int 0]), (q_4, ob 6 [.ref q_1_8, .int (nI 40), .int 0]), (q_1_8, aJ E 120 (fun _ => 0)), (q_9, ob 6 [.ref q_2_13, .int (nI 100), .int 0]), (q_2_13, aJ E 300 (fun _ => 0)), (q_14, ob 6 [.ref q_3_18, .int (nI 60), .int 0]), (q_3_18, aJ E 180 (fun _ => 0)), (q_19, aI E 40 (fun _ => 0)), (q_20, aI E 1280 (fun _ => 0)), (q_21, aI E 1280 (fun _ => 0)), (q_22, aI E 320 (fun _ => 0)), (q_23, aI E 100 (fun _ => 0)), (q_24, aI E 100 (fun _ => 0)), (q_25, aI E 100 (fun _ => 0)), (q_26, aI E 800 (fun _ => 0)), (q_27, aI E 800 (fun _ => 0)), (q_28, aI E 800 (fun _ => 0)), (q_29, aI E 60 (fun _ => 0)), (q_30, aI E 32 (fun _ => 0)), (q_31, aI E 32 (fun _ => 0)), (q_32, aI E 10098 (fun _ => 0))])) := by
  refine cM_of (by decide) (Nat.le_of_ble_eq_true rfl) ?_
  intro p e s m below meth c ls A F hA hS hP hD hK hZ hl
  obtain ⟨hx, hb, hr, hml, hown, hts, hlk, hin⟩ := id F
  have hown : s.vm.findClass RX0 = some m.cls := hown
  have hin : meth.name = "<init>" := hin
  have hl : lv_has ls 1 [(0, .ref h0)] := hl
  refine lv_aload_n hx hb dX0_init_0 rfl (lv_at hl 0 rfl) ?_
  refine W.objInit hx hb hown (hts _ wdM_RX0_3) (hts _ wd_oi) (hts _ wd_oc) rfl (by rw [hml]; exact hl.1) rfl dX0_init_1 (by decide) (Nat.le_of_ble_eq_true rfl) ?_
  refine W.eq (g2 := F0 m 4 ls []) rfl ?_
  refine lv_aload_n hx hb dX0_init_4 rfl (lv_at hl 0 rfl) ?_
  refine va_new (D := E.1) (cl := vwCl) (ci := 6) (fs := [.null, .int 0, .int 0]) (C := RX6) (T := TX6) (N := 3) hx hb hts iX6 tyX6 tyX6_ok hown (hts _ wdC_RX0_9) (hts _ wdI_RX6) (hts _ wdZ_RX6) hK hP hD hS hA rfl zX6 (by decide) (by decide) dX0_init_5 (fun q_4 H hP hD hS => ?_)
  have hP : va_P E.1 vwCl [(h0, ob 0 [.null, .null, .null, .null, .null, .null, .null, .null, .null, .null, .null, .null, .null, .null, .null, .null, .int 0, .null, .int 0, .int 0]), (q_4, ob 6 [.null, .int 0, .int 0])] H := hP
  have hD : va_D A [(h0, ob 0 [.null, .null, .null, .null, .null, .null, .null, .null, .null, .null, .null, .null, .null, .null, .null, .null, .int 0, .null, .int 0, .int 0]), (q_4, ob 6 [.null, .int 0, .int 0])] := hD
  refine W.widen (k := 1) (n := 3) (by decide) (by decide) ?_
  refine lv_dup hx hb dX0_init_8 rfl ?_
  refine lv_bipush (v := nI 40) hx hb dX0_init_9 (by decide) ?_
  refine cV_go (wr := [(h0, ob 0 [.null, .null, .null, .null, .null, .null, .null, .null, .null, .null, .null, .null, .null, .null, .null, .null, .int 0, .null, .int 0, .int 0])]) (cM_runI (As := [.int (nI 40)]) (rest := [.ref q_4, .ref h0]) F (c_X6_init_40 l E q_4) yy_X6_init wdN_X6_init rfl wdM_RX0_11 hP hD hS hK hZ hA [1] rfl rfl rfl hl.1 rfl (Nat.le_of_ble_eq_true rfl) dX0_init_11 ⟨by decide, by decide⟩ ⟨by decide, by decide⟩) hP hD hS hA [1] [0] rfl rfl rfl (by decide) (fun u_6 H locs hw_5 hP hD hS => ?_)
  obtain ⟨q_1_8, rfl⟩ : ∃ z, z = u_6 := ⟨_, rfl⟩
  try dsimp only at hw_5
  have hP : va_P E.1 vwCl [(h0, ob 0 [.null, .null, .null, .null, .null, .null, .null, .null, .null, .null, .null, .null, .null, .null, .null, .null, .int 0, .null, .int 0, .int 0]), (q_4, ob 6 [.ref q_1_8, .int (nI 40), .int 0]), (q_1_8, aJ E 120 (fun _ => 0))] H := hP
  have hD : va_D A [(h0, ob 0 [.null, .null, .null, .null, .null, .null, .null, .null, .null, .null, .null, .null, .null, .null, .null, .null, .int 0, .null, .int 0, .int 0]), (q_4, ob 6 [.ref q_1_8, .int (nI 40), .int 0]), (q_1_8, aJ E 120 (fun _ => 0))] := hD
  refine W.widen (k := 2) (n := 123) (by decide) (by decide) ?_
  refine va_putF (D := E.1) (ci := 0) (v := .ref q_4) (ty := .object "CallerHall$Names") (C := RX0) (T := TX0) (N := 20) hx hb hts iX0 tyX0 tyX0_ok nmX0 hown hK hP hD hS 0 rfl rfl 0 (by decide) (hts _ wdF_RX0_14) (fun _ h9 => h9) rfl hin rfl (by decide +kernel) rfl rfl (Nat.le_of_ble_eq_true rfl) dX0_init_14 (fun H locs hP hD hS => ?_)
  have hP : va_P E.1 vwCl [(h0, ob 0 [.ref q_4, .null, .null, .null, .null, .null, .null, .null, .null, .null, .null, .null, .null, .null, .null, .null, .int 0, .null, .int 0, .int 0]), (q_4, ob 6 [.ref q_1_8, .int (nI 40), .int 0]), (q_1_8, aJ E 120 (fun _ => 0))] H := hP
  have hD : va_D A [(h0, ob 0 [.ref q_4, .null, .null, .null, .null, .null, .null, .null, .null, .null, .null, .null, .null, .null, .null, .null, .int 0, .null, .int 0, .int 0]), (q_4, ob 6 [.ref q_1_8, .int (nI 40), .int 0]), (q_1_8, aJ E 120 (fun _ => 0))] := hD
  refine lv_aload_n hx hb dX0_init_17 rfl (lv_at hl 0 rfl) ?_
  refine va_new (D := E.1) (cl := vwCl) (ci := 6) (fs := [.null, .int 0, .int 0]) (C := RX6) (T := TX6) (N := 3) hx hb hts iX6 tyX6 tyX6_ok hown (hts _ wdC_RX0_9) (hts _ wdI_RX6) (hts _ wdZ_RX6) hK hP hD hS hA rfl zX6 (by decide) (by decide) dX0_init_18 (fun q_9 H hP hD hS => ?_)
  have hP : va_P E.1 vwCl [(h0, ob 0 [.ref q_4, .null, .null, .null, .null, .null, .null, .null, .null, .null, .null, .null, .null, .null, .null, .null, .int 0, .null, .int 0, .int 0]), (q_4, ob 6 [.ref q_1_8, .int (nI 40), .int 0]), (q_1_8, aJ E 120 (fun _ => 0)), (q_9, ob 6 [.null, .int 0, .int 0])] H := hP
  have hD : va_D A [(h0, ob 0 [.ref q_4, .null, .null, .null, .null, .null, .null, .null, .null, .null, .null, .null, .null, .null, .null, .null, .int 0, .null, .int 0, .int 0]), (q_4, ob 6 [.ref q_1_8, .int (nI 40), .int 0]), (q_1_8, aJ E 120 (fun _ => 0)), (q_9, ob 6 [.null, .int 0, .int 0])] := hD
  refine W.widen (k := 3) (n := 126) (by decide) (by decide) ?_
  refine lv_dup hx hb dX0_init_21 rfl ?_
  refine lv_bipush (v := nI 100) hx hb dX0_init_22 (by decide) ?_
  refine cV_go (wr := [(h0, ob 0 [.ref q_4, .null, .null, .null, .null, .null, .null, .null, .null, .null, .null, .null, .null, .null, .null, .null, .int 0, .null, .int 0, .int 0]), (q_4, ob 6 [.ref q_1_8, .int (nI 40), .int 0]), (q_1_8, aJ E 120 (fun _ => 0))]) (cM_runI (As := [.int (nI 100)]) (rest := [.ref q_9, .ref h0]) F (c_X6_init_100 l E q_9) yy_X6_init wdN_X6_init rfl wdM_RX0_11 hP hD hS hK hZ hA [3] rfl rfl rfl hl.1 rfl (Nat.le_of_ble_eq_true rfl) dX0_init_24 ⟨by decide, by decide⟩ ⟨by decide, by decide⟩) hP hD hS hA [3] [0, 1, 2] rfl rfl rfl (by decide) (fun u_11 H locs hw_10 hP hD hS => ?_)
  obtain ⟨q_2_13, rfl⟩ : ∃ z, z = u_11 := ⟨_, rfl⟩
  try dsimp only at hw_10
  have hP : va_P E.1 vwCl [(h0, ob 0 [.ref q_4, .null, .null, .null, .null, .null, .null, .null, .null, .null, .null, .null, .null, .null, .null, .null, .int 0, .null, .int 0, .int 0]), (q_4, ob 6 [.ref q_1_8, .int (nI 40), .int 0]), (q_1_8, aJ E 120 (fun _ => 0)), (q_9, ob 6 [.ref q_2_13, .int (nI 100), .int 0]), (q_2_13, aJ E 300 (fun _ => 0))] H := hP
  have hD : va_D A [(h0, ob 0 [.ref q_4, .null, .null, .null, .null, .null, .null, .null, .null, .null, .null, .null, .null, .null, .null, .null, .int 0, .null, .int 0, .int 0]), (q_4, ob 6 [.ref q_1_8, .int (nI 40), .int 0]), (q_1_8, aJ E 120 (fun _ => 0)), (q_9, ob 6 [.ref q_2_13, .int (nI 100), .int 0]), (q_2_13, aJ E 300 (fun _ => 0))] := hD
  refine W.widen (k := 4) (n := 426) (by decide) (by decide) ?_
  refine va_putF (D := E.1) (ci := 0) (v := .ref q_9) (ty := .object "CallerHall$Names") (C := RX0) (T := TX0) (N := 20) hx hb hts iX0 tyX0 tyX0_ok nmX0 hown hK hP hD hS 0 rfl rfl 1 (by decide) (hts _ wdF_RX0_20) (fun _ h9 => h9) rfl hin rfl (by decide +kernel) rfl rfl (Nat.le_of_ble_eq_true rfl) dX0_init_27 (fun H locs hP hD hS => ?_)
  have hP : va_P E.1 vwCl [(h0, ob 0 [.ref q_4, .ref q_9, .null, .null, .null, .null, .null, .null, .null, .null, .null, .null, .null, .null, .null, .null, .int 0, .null, .int 0, .int 0]), (q_4, ob 6 [.ref q_1_8, .int (nI 40), .int 0]), (q_1_8, aJ E 120 (fun _ => 0)), (q_9, ob 6 [.ref q_2_13, .int (nI 100), .int 0]), (q_2_13, aJ E 300 (fun _ => 0))] H := hP
  have hD : va_D A [(h0, ob 0 [.ref q_4, .ref q_9, .null, .null, .null, .null, .null, .null, .null, .null, .null, .null, .null, .null, .null, .null, .int 0, .null, .int 0, .int 0]), (q_4, ob 6 [.ref q_1_8, .int (nI 40), .int 0]), (q_1_8, aJ E 120 (fun _ => 0)), (q_9, ob 6 [.ref q_2_13, .int (nI 100), .int 0]), (q_2_13, aJ E 300 (fun _ => 0))] := hD
  refine lv_aload_n hx hb dX0_init_30 rfl (lv_at hl 0 rfl) ?_
  refine va_new (D := E.1) (cl := vwCl) (ci := 6) (fs := [.null, .int 0, .int 0]) (C := RX6) (T := TX6) (N := 3) hx hb hts iX6 tyX6 tyX6_ok hown (hts _ wdC_RX0_9) (hts _ wdI_RX6) (hts _ wdZ_RX6) hK hP hD hS hA rfl zX6 (by decide) (by decide) dX0_init_31 (fun q_14 H hP hD hS => ?_)
  have hP : va_P E.1 vwCl [(h0, ob 0 [.ref q_4, .ref q_9, .null, .null, .null, .null, .null, .null, .null, .null, .null, .null, .null, .null, .null, .null, .int 0, .null, .int 0, .int 0]), (q_4, ob 6 [.ref q_1_8, .int (nI 40), .int 0]), (q_1_8, aJ E 120 (fun _ => 0)), (q_9, ob 6 [.ref q_2_13, .int (nI 100), .int 0]), (q_2_13, aJ E 300 (fun _ => 0)), (q_14, ob 6 [.null, .int 0, .int 0])] H := hP
  have hD : va_D A [(h0, ob 0 [.ref q_4, .ref q_9, .null, .null, .null, .null, .null, .null, .null, .null, .null, .null, .null, .null, .null, .null, .int 0, .null, .int 0, .int 0]), (q_4, ob 6 [.ref q_1_8, .int (nI 40), .int 0]), (q_1_8, aJ E 120 (fun _ => 0)), (q_9, ob 6 [.ref q_2_13, .int (nI 100), .int 0]), (q_2_13, aJ E 300 (fun _ => 0)), (q_14, ob 6 [.null, .int 0, .int 0])] := hD
  refine W.widen (k := 5) (n := 429) (by decide) (by decide) ?_
  refine lv_dup hx hb dX0_init_34 rfl ?_
  refine lv_bipush (v := nI 60) hx hb dX0_init_35 (by decide) ?_
  refine cV_go (wr := [(h0, ob 0 [.ref q_4, .ref q_9, .null, .null, .null, .null, .null, .null, .null, .null, .null, .null, .null, .null, .null, .null, .int 0, .null, .int 0, .int 0]), (q_4, ob 6 [.ref q_1_8, .int (nI 40), .int 0]), (q_1_8, aJ E 120 (fun _ => 0)), (q_9, ob 6 [.ref q_2_13, .int (nI 100), .int 0]), (q_2_13, aJ E 300 (fun _ => 0))]) (cM_runI (As := [.int (nI 60)]) (rest := [.ref q_14, .ref h0]) F (c_X6_init_60 l E q_14) yy_X6_init wdN_X6_init rfl wdM_RX0_11 hP hD hS hK hZ hA [5] rfl rfl rfl hl.1 rfl (Nat.le_of_ble_eq_true rfl) dX0_init_37 ⟨by decide, by decide⟩ ⟨by decide, by decide⟩) hP hD hS hA [5] [0, 1, 2, 3, 4] rfl rfl rfl (by decide) (fun u_16 H locs hw_15 hP hD hS => ?_)
  obtain ⟨q_3_18, rfl⟩ : ∃ z, z = u_16 := ⟨_, rfl⟩
  try dsimp only at hw_15
  have hP : va_P E.1 vwCl [(h0, ob 0 [.ref q_4, .ref q_9, .null, .null, .null, .null, .null, .null, .null, .null, .null, .null, .null, .null, .null, .null, .int 0, .null, .int 0, .int 0]), (q_4, ob 6 [.ref q_1_8, .int (nI 40), .int 0]), (q_1_8, aJ E 120 (fun _ => 0)), (q_9, ob 6 [.ref q_2_13, .int (nI 100), .int 0]), (q_2_13, aJ E 300 (fun _ => 0)), (q_14, ob 6 [.ref q_3_18, .int (nI 60), .int 0]), (q_3_18, aJ E 180 (fun _ => 0))] H := hP
  have hD : va_D A [(h0, ob 0 [.ref q_4, .ref q_9, .null, .null, .null, .null, .null, .null, .null, .null, .null, .null, .null, .null, .null, .null, .int 0, .null, .int 0, .int 0]), (q_4, ob 6 [.ref q_1_8, .int (nI 40), .int 0]), (q_1_8, aJ E 120 (fun _ => 0)), (q_9, ob 6 [.ref q_2_13, .int (nI 100), .int 0]), (q_2_13, aJ E 300 (fun _ => 0)), (q_14, ob 6 [.ref q_3_18, .int (nI 60), .int 0]), (q_3_18, aJ E 180 (fun _ => 0))] := hD
  refine W.widen (k := 6) (n := 609) (by decide) (by decide) ?_
  refine va_putF (D := E.1) (ci := 0) (v := .ref q_14) (ty := .object "CallerHall$Names") (C := RX0) (T := TX0) (N := 20) hx hb hts iX0 tyX0 tyX0_ok nmX0 hown hK hP hD hS 0 rfl rfl 2 (by decide) (hts _ wdF_RX0_23) (fun _ h9 => h9) rfl hin rfl (by decide +kernel) rfl rfl (Nat.le_of_ble_eq_true rfl) dX0_init_40 (fun H locs hP hD hS => ?_)
  have hP : va_P E.1 vwCl [(h0, ob 0 [.ref q_4, .ref q_9, .ref q_14, .null, .null, .null, .null, .null, .null, .null, .null, .null, .null, .null, .null, .null, .int 0, .null, .int 0, .int 0]), (q_4, ob 6 [.ref q_1_8, .int (nI 40), .int 0]), (q_1_8, aJ E 120 (fun _ => 0)), (q_9, ob 6 [.ref q_2_13, .int (nI 100), .int 0]), (q_2_13, aJ E 300 (fun _ => 0)), (q_14, ob 6 [.ref q_3_18, .int (nI 60), .int 0]), (q_3_18, aJ E 180 (fun _ => 0))] H := hP
  have hD : va_D A [(h0, ob 0 [.ref q_4, .ref q_9, .ref q_14, .null, .null, .null, .null, .null, .null, .null, .null, .null, .null, .null, .null, .null, .int 0, .null, .int 0, .int 0]), (q_4, ob 6 [.ref q_1_8, .int (nI 40), .int 0]), (q_1_8, aJ E 120 (fun _ => 0)), (q_9, ob 6 [.ref q_2_13, .int (nI 100), .int 0]), (q_2_13, aJ E 300 (fun _ => 0)), (q_14, ob 6 [.ref q_3_18, .int (nI 60), .int 0]), (q_3_18, aJ E 180 (fun _ => 0))] := hD
  refine lv_aload_n hx hb dX0_init_43 rfl (lv_at hl 0 rfl) ?_
  refine lv_bipush (v := nI 40) hx hb dX0_init_44 (by decide) ?_
  refine cw_newa (E := E) (atype := .int) (ty := .int) (a0 := (40, .inl (fun _ => 0))) hx hb (hts _ wdA_int) rfl hK hP hD hS hA 1 rfl rfl (fun _ => rfl) (by decide) (by decide) (by decide) (by decide) (by decide) dX0_init_46 (fun q_19 H hP hD hS => ?_)
  have hP : va_P E.1 vwCl [(h0, ob 0 [.ref q_4, .ref q_9, .ref q_14, .null, .null, .null, .null, .null, .null, .null, .null, .null, .null, .null, .null, .null, .int 0, .null, .int 0, .int 0]), (q_4, ob 6 [.ref q_1_8, .int (nI 40), .int 0]), (q_1_8, aJ E 120 (fun _ => 0)), (q_9, ob 6 [.ref q_2_13, .int (nI 100), .int 0]), (q_2_13, aJ E 300 (fun _ => 0)), (q_14, ob 6 [.ref q_3_18, .int (nI 60), .int 0]), (q_3_18, aJ E 180 (fun _ => 0)), (q_19, aI E 40 (fun _ => 0))] H := hP
  have hD : va_D A [(h0, ob 0 [.ref q_4, .ref q_9, .ref q_14, .null, .null, .null, .null, .null, .null, .null, .null, .null, .null, .null, .null, .null, .int 0, .null, .int 0, .int 0]), (q_4, ob 6 [.ref q_1_8, .int (nI 40), .int 0]), (q_1_8, aJ E 120 (fun _ => 0)), (q_9, ob 6 [.ref q_2_13, .int (nI 100), .int 0]), (q_2_13, aJ E 300 (fun _ => 0)), (q_14, ob 6 [.ref q_3_18, .int (nI 60), .int 0]), (q_3_18, aJ E 180 (fun _ => 0)), (q_19, aI E 40 (fun _ => 0))] := hD
  refine W.widen (k := 7) (n := 649) (by decide) (by decide) ?_
  refine va_putF (D := E.1) (ci := 0) (v := .ref q_19) (ty := .array .int) (C := RX0) (T := TX0) (N := 20) hx hb hts iX0 tyX0 tyX0_ok nmX0 hown hK hP hD hS 0 rfl rfl 3 (by decide) (hts _ wdF_RX0_26) (fun _ h9 => h9) rfl hin rfl (by decide +kernel) rfl rfl (Nat.le_of_ble_eq_true rfl) dX0_init_48 (fun H locs hP hD hS => ?_)
  have hP : va_P E.1 vwCl [(h0, ob 0 [.ref q_4, .ref q_9, .ref q_14, .ref q_19, .null, .null, .null, .null, .null, .null, .null, .null, .null, .null, .null, .null, .int 0, .null, .int 0, .int 0]), (q_4, ob 6 [.ref q_1_8, .int (nI 40), .int 0]), (q_1_8, aJ E 120 (fun _ => 0)), (q_9, ob 6 [.ref q_2_13, .int (nI 100), .int 0]), (q_2_13, aJ E 300 (fun _ => 0)), (q_14, ob 6 [.ref q_3_18, .int (nI 60), .int 0]), (q_3_18, aJ E 180 (fun _ => 0)), (q_19, aI E 40 (fun _ => 0))] H := hP
  have hD : va_D A [(h0, ob 0 [.ref q_4, .ref q_9, .ref q_14, .ref q_19, .null, .null, .null, .null, .null, .null, .null, .null, .null, .null, .null, .null, .int 0, .null, .int 0, .int 0]), (q_4, ob 6 [.ref q_1_8, .int (nI 40), .int 0]), (q_1_8, aJ E 120 (fun _ => 0)), (q_9, ob 6 [.ref q_2_13, .int (nI 100), .int 0]), (q_2_13, aJ E 300 (fun _ => 0)), (q_14, ob 6 [.ref q_3_18, .int (nI 60), .int 0]), (q_3_18, aJ E 180 (fun _ => 0)), (q_19, aI E 40 (fun _ => 0))] := hD
  refine lv_aload_n hx hb dX0_init_51 rfl (lv_at hl 0 rfl) ?_
  refine lv_sipush (v := nI 1280) hx hb dX0_init_52 (by decide) ?_
  refine cw_newa (E := E) (atype := .int) (ty := .int) (a0 := (1280, .inl (fun _ => 0))) hx hb (hts _ wdA_int) rfl hK hP hD hS hA 1 rfl rfl (fun _ => rfl) (by decide) (by decide) (by decide) (by decide) (by decide) dX0_init_55 (fun q_20 H hP hD hS => ?_)
  have hP : va_P E.1 vwCl [(h0, ob 0 [.ref q_4, .ref q_9, .ref q_14, .ref q_19, .null, .null, .null, .null, .null, .null, .null, .null, .null, .null, .null, .null, .int 0, .null, .int 0, .int 0]), (q_4, ob 6 [.ref q_1_8, .int (nI 40), .int 0]), (q_1_8, aJ E 120 (fun _ => 0)), (q_9, ob 6 [.ref q_2_13, .int (nI 100), .int 0]), (q_2_13, aJ E 300 (fun _ => 0)), (q_14, ob 6 [.ref q_3_18, .int (nI 60), .int 0]), (q_3_18, aJ E 180 (fun _ => 0)), (q_19, aI E 40 (fun _ => 0)), (q_20, aI E 1280 (fun _ => 0))] H := hP
  have hD : va_D A [(h0, ob 0 [.ref q_4, .ref q_9, .ref q_14, .ref q_19, .null, .null, .null, .null, .null, .null, .null, .null, .null, .null, .null, .null, .int 0, .null, .int 0, .int 0]), (q_4, ob 6 [.ref q_1_8, .int (nI 40), .int 0]), (q_1_8, aJ E 120 (fun _ => 0)), (q_9, ob 6 [.ref q_2_13, .int (nI 100), .int 0]), (q_2_13, aJ E 300 (fun _ => 0)), (q_14, ob 6 [.ref q_3_18, .int (nI 60), .int 0]), (q_3_18, aJ E 180 (fun _ => 0)), (q_19, aI E 40 (fun _ => 0)), (q_20, aI E 1280 (fun _ => 0))] := hD
  refine W.widen (k := 8) (n := 1929) (by decide) (by decide) ?_
  refine va_putF (D := E.1) (ci := 0) (v := .ref q_20) (ty := .array .int) (C := RX0) (T := TX0) (N := 20) hx hb hts iX0 tyX0 tyX0_ok nmX0 hown hK hP hD hS 0 rfl rfl 4 (by decide) (hts _ wdF_RX0_30) (fun _ h9 => h9) rfl hin rfl (by decide +kernel) rfl rfl (Nat.le_of_ble_eq_true rfl) dX0_init_57 (fun H locs hP hD hS => ?_)
  have hP : va_P E.1 vwCl [(h0, ob 0 [.ref q_4, .ref q_9, .ref q_14, .ref q_19, .ref q_20, .null, .null, .null, .null, .null, .null, .null, .null, .null, .null, .null, .int 0, .null, .int 0, .int 0]), (q_4, ob 6 [.ref q_1_8, .int (nI 40), .int 0]), (q_1_8, aJ E 120 (fun _ => 0)), (q_9, ob 6 [.ref q_2_13, .int (nI 100), .int 0]), (q_2_13, aJ E 300 (fun _ => 0)), (q_14, ob 6 [.ref q_3_18, .int (nI 60), .int 0]), (q_3_18, aJ E 180 (fun _ => 0)), (q_19, aI E 40 (fun _ => 0)), (q_20, aI E 1280 (fun _ => 0))] H := hP
  have hD : va_D A [(h0, ob 0 [.ref q_4, .ref q_9, .ref q_14, .ref q_19, .ref q_20, .null, .null, .null, .null, .null, .null, .null, .null, .null, .null, .null, .int 0, .null, .int 0, .int 0]), (q_4, ob 6 [.ref q_1_8, .int (nI 40), .int 0]), (q_1_8, aJ E 120 (fun _ => 0)), (q_9, ob 6 [.ref q_2_13, .int (nI 100), .int 0]), (q_2_13, aJ E 300 (fun _ => 0)), (q_14, ob 6 [.ref q_3_18, .int (nI 60), .int 0]), (q_3_18, aJ E 180 (fun _ => 0)), (q_19, aI E 40 (fun _ => 0)), (q_20, aI E 1280 (fun _ => 0))] := hD
  refine lv_aload_n hx hb dX0_init_60 rfl (lv_at hl 0 rfl) ?_
  refine lv_sipush (v := nI 1280) hx hb dX0_init_61 (by decide) ?_
  refine cw_newa (E := E) (atype := .int) (ty := .int) (a0 := (1280, .inl (fun _ => 0))) hx hb (hts _ wdA_int) rfl hK hP hD hS hA 1 rfl rfl (fun _ => rfl) (by decide) (by decide) (by decide) (by decide) (by decide) dX0_init_64 (fun q_21 H hP hD hS => ?_)
  have hP : va_P E.1 vwCl [(h0, ob 0 [.ref q_4, .ref q_9, .ref q_14, .ref q_19, .ref q_20, .null, .null, .null, .null, .null, .null, .null, .null, .null, .null, .null, .int 0, .null, .int 0, .int 0]), (q_4, ob 6 [.ref q_1_8, .int (nI 40), .int 0]), (q_1_8, aJ E 120 (fun _ => 0)), (q_9, ob 6 [.ref q_2_13, .int (nI 100), .int 0]), (q_2_13, aJ E 300 (fun _ => 0)), (q_14, ob 6 [.ref q_3_18, .int (nI 60), .int 0]), (q_3_18, aJ E 180 (fun _ => 0)), (q_19, aI E 40 (fun _ => 0)), (q_20, aI E 1280 (fun _ => 0)), (q_21, aI E 1280 (fun _ => 0))] H := hP
  have hD : va_D A [(h0, ob 0 [.ref q_4, .ref q_9, .ref q_14, .ref q_19, .ref q_20, .null, .null, .null, .null, .null, .null, .null, .null, .null, .null, .null, .int 0, .null, .int 0, .int 0]), (q_4, ob 6 [.ref q_1_8, .int (nI 40), .int 0]), (q_1_8, aJ E 120 (fun _ => 0)), (q_9, ob 6 [.ref q_2_13, .int (nI 100), .int 0]), (q_2_13, aJ E 300 (fun _ => 0)), (q_14, ob 6 [.ref q_3_18, .int (nI 60), .int 0]), (q_3_18, aJ E 180 (fun _ => 0)), (q_19, aI E 40 (fun _ => 0)), (q_20, aI E 1280 (fun _ => 0)), (q_21, aI E 1280 (fun _ => 0))] := hD
  refine W.widen (k := 9) (n := 3209) (by decide) (by decide) ?_
  refine va_putF (D := E.1) (ci := 0) (v := .ref q_21) (ty := .array .int) (C := RX0) (T := TX0) (N := 20) hx hb hts iX0 tyX0 tyX0_ok nmX0 hown hK hP hD hS 0 rfl rfl 5 (by decide) (hts _ wdF_RX0_33) (fun _ h9 => h9) rfl hin rfl (by decide +kernel) rfl rfl (Nat.le_of_ble_eq_true rfl) dX0_init_66 (fun H locs hP hD hS => ?_)
  have hP : va_P E.1 vwCl [(h0, ob 0 [.ref q_4, .ref q_9, .ref q_14, .ref q_19, .ref q_20, .ref q_21, .null, .null, .null, .null, .null, .null, .null, .null, .null, .null, .int 0, .null, .int 0, .int 0]), (q_4, ob 6 [.ref q_1_8, .int (nI 40), .int 0]), (q_1_8, aJ E 120 (fun _ => 0)), (q_9, ob 6 [.ref q_2_13, .int (nI 100), .int 0]), (q_2_13, aJ E 300 (fun _ => 0)), (q_14, ob 6 [.ref q_3_18, .int (nI 60), .int 0]), (q_3_18, aJ E 180 (fun _ => 0)), (q_19, aI E 40 (fun _ => 0)), (q_20, aI E 1280 (fun _ => 0)), (q_21, aI E 1280 (fun _ => 0))] H := hP
  have hD : va_D A [(h0, ob 0 [.ref q_4, .ref q_9, .ref q_14, .ref q_19, .ref q_20, .ref q_21, .null, .null, .null, .null, .null, .null, .null, .null, .null, .null, .int 0, .null, .int 0, .int 0]), (q_4, ob 6 [.ref q_1_8, .int (nI 40), .int 0]), (q_1_8, aJ E 120 (fun _ => 0)), (q_9, ob 6 [.ref q_2_13, .int (nI 100), .int 0]), (q_2_13, aJ E 300 (fun _ => 0)), (q_14, ob 6 [.ref q_3_18, .int (nI 60), .int 0]), (q_3_18, aJ E 180 (fun _ => 0)), (q_19, aI E 40 (fun _ => 0)), (q_20, aI E 1280 (fun _ => 0)), (q_21, aI E 1280 (fun _ => 0))] := hD
  refine lv_aload_n hx hb dX0_init_69 rfl (lv_at hl 0 rfl) ?_
  refine lv_sipush (v := nI 320) hx hb dX0_init_70 (by decide) ?_
  refine cw_newa (E := E) (atype := .int) (ty := .int) (a0 := (320, .inl (fun _ => 0))) hx hb (hts _ wdA_int) rfl hK hP hD hS hA 1 rfl rfl (fun _ => rfl) (by decide) (by decide) (by decide) (by decide) (by decide) dX0_init_73 (fun q_22 H hP hD hS => ?_)
  have hP : va_P E.1 vwCl [(h0, ob 0 [.ref q_4, .ref q_9, .ref q_14, .ref q_19, .ref q_20, .ref q_21, .null, .null, .null, .null, .null, .null, .null, .null, .null, .null, .int 0, .null, .int 0, .int 0]), (q_4, ob 6 [.ref q_1_8, .int (nI 40), .int 0]), (q_1_8, aJ E 120 (fun _ => 0)), (q_9, ob 6 [.ref q_2_13, .int (nI 100), .int 0]), (q_2_13, aJ E 300 (fun _ => 0)), (q_14, ob 6 [.ref q_3_18, .int (nI 60), .int 0]), (q_3_18, aJ E 180 (fun _ => 0)), (q_19, aI E 40 (fun _ => 0)), (q_20, aI E 1280 (fun _ => 0)), (q_21, aI E 1280 (fun _ => 0)), (q_22, aI E 320 (fun _ => 0))] H := hP
  have hD : va_D A [(h0, ob 0 [.ref q_4, .ref q_9, .ref q_14, .ref q_19, .ref q_20, .ref q_21, .null, .null, .null, .null, .null, .null, .null, .null, .null, .null, .int 0, .null, .int 0, .int 0]), (q_4, ob 6 [.ref q_1_8, .int (nI 40), .int 0]), (q_1_8, aJ E 120 (fun _ => 0)), (q_9, ob 6 [.ref q_2_13, .int (nI 100), .int 0]), (q_2_13, aJ E 300 (fun _ => 0)), (q_14, ob 6 [.ref q_3_18, .int (nI 60), .int 0]), (q_3_18, aJ E 180 (fun _ => 0)), (q_19, aI E 40 (fun _ => 0)), (q_20, aI E 1280 (fun _ => 0)), (q_21, aI E 1280 (fun _ => 0)), (q_22, aI E 320 (fun _ => 0))] := hD
  refine W.widen (k := 10) (n := 3529) (by decide) (by decide) ?_
  refine va_putF (D := E.1) (ci := 0) (v := .ref q_22) (ty := .array .int) (C := RX0) (T := TX0) (N := 20) hx hb hts iX0 tyX0 tyX0_ok nmX0 hown hK hP hD hS 0 rfl rfl 6 (by decide) (hts _ wdF_RX0_36) (fun _ h9 => h9) rfl hin rfl (by decide +kernel) rfl rfl (Nat.le_of_ble_eq_true rfl) dX0_init_75 (fun H locs hP hD hS => ?_)
  have hP : va_P E.1 vwCl [(h0, ob 0 [.ref q_4, .ref q_9, .ref q_14, .ref q_19, .ref q_20, .ref q_21, .ref q_22, .null, .null, .null, .null, .null, .null, .null, .null, .null, .int 0, .null, .int 0, .int 0]), (q_4, ob 6 [.ref q_1_8, .int (nI 40), .int 0]), (q_1_8, aJ E 120 (fun _ => 0)), (q_9, ob 6 [.ref q_2_13, .int (nI 100), .int 0]), (q_2_13, aJ E 300 (fun _ => 0)), (q_14, ob 6 [.ref q_3_18, .int (nI 60), .int 0]), (q_3_18, aJ E 180 (fun _ => 0)), (q_19, aI E 40 (fun _ => 0)), (q_20, aI E 1280 (fun _ => 0)), (q_21, aI E 1280 (fun _ => 0)), (q_22, aI E 320 (fun _ => 0))] H := hP
  have hD : va_D A [(h0, ob 0 [.ref q_4, .ref q_9, .ref q_14, .ref q_19, .ref q_20, .ref q_21, .ref q_22, .null, .null, .null, .null, .null, .null, .null, .null, .null, .int 0, .null, .int 0, .int 0]), (q_4, ob 6 [.ref q_1_8, .int (nI 40), .int 0]), (q_1_8, aJ E 120 (fun _ => 0)), (q_9, ob 6 [.ref q_2_13, .int (nI 100), .int 0]), (q_2_13, aJ E 300 (fun _ => 0)), (q_14, ob 6 [.ref q_3_18, .int (nI 60), .int 0]), (q_3_18, aJ E 180 (fun _ => 0)), (q_19, aI E 40 (fun _ => 0)), (q_20, aI E 1280 (fun _ => 0)), (q_21, aI E 1280 (fun _ => 0)), (q_22, aI E 320 (fun _ => 0))] := hD
  refine lv_aload_n hx hb dX0_init_78 rfl (lv_at hl 0 rfl) ?_
  refine lv_bipush (v := nI 100) hx hb dX0_init_79 (by decide) ?_
  refine cw_newa (E := E) (atype := .int) (ty := .int) (a0 := (100, .inl (fun _ => 0))) hx hb (hts _ wdA_int) rfl hK hP hD hS hA 1 rfl rfl (fun _ => rfl) (by decide) (by decide) (by decide) (by decide) (by decide) dX0_init_81 (fun q_23 H hP hD hS => ?_)
  have hP : va_P E.1 vwCl [(h0, ob 0 [.ref q_4, .ref q_9, .ref q_14, .ref q_19, .ref q_20, .ref q_21, .ref q_22, .null, .null, .null, .null, .null, .null, .null, .null, .null, .int 0, .null, .int 0, .int 0]), (q_4, ob 6 [.ref q_1_8, .int (nI 40), .int 0]), (q_1_8, aJ E 120 (fun _ => 0)), (q_9, ob 6 [.ref q_2_13, .int (nI 100), .int 0]), (q_2_13, aJ E 300 (fun _ => 0)), (q_14, ob 6 [.ref q_3_18, .int (nI 60), .int 0]), (q_3_18, aJ E 180 (fun _ => 0)), (q_19, aI E 40 (fun _ => 0)), (q_20, aI E 1280 (fun _ => 0)), (q_21, aI E 1280 (fun _ => 0)), (q_22, aI E 320 (fun _ => 0)), (q_23, aI E 100 (fun _ => 0))] H := hP
  have hD : va_D A [(h0, ob 0 [.ref q_4, .ref q_9, .ref q_14, .ref q_19, .ref q_20, .ref q_21, .ref q_22, .null, .null, .null, .null, .null, .null, .null, .null, .null, .int 0, .null, .int 0, .int 0]), (q_4, ob 6 [.ref q_1_8, .int (nI 40), .int 0]), (q_1_8, aJ E 120 (fun _ => 0)), (q_9, ob 6 [.ref q_2_13, .int (nI 100), .int 0]), (q_2_13, aJ E 300 (fun _ => 0)), (q_14, ob 6 [.ref q_3_18, .int (nI 60), .int 0]), (q_3_18, aJ E 180 (fun _ => 0)), (q_19, aI E 40 (fun _ => 0)), (q_20, aI E 1280 (fun _ => 0)), (q_21, aI E 1280 (fun _ => 0)), (q_22, aI E 320 (fun _ => 0)), (q_23, aI E 100 (fun _ => 0))] := hD
  refine W.widen (k := 11) (n := 3629) (by decide) (by decide) ?_
  refine va_putF (D := E.1) (ci := 0) (v := .ref q_23) (ty := .array .int) (C := RX0) (T := TX0) (N := 20) hx hb hts iX0 tyX0 tyX0_ok nmX0 hown hK hP hD hS 0 rfl rfl 7 (by decide) (hts _ wdF_RX0_39) (fun _ h9 => h9) rfl hin rfl (by decide +kernel) rfl rfl (Nat.le_of_ble_eq_true rfl) dX0_init_83 (fun H locs hP hD hS => ?_)
  have hP : va_P E.1 vwCl [(h0, ob 0 [.ref q_4, .ref q_9, .ref q_14, .ref q_19, .ref q_20, .ref q_21, .ref q_22, .ref q_23, .null, .null, .null, .null, .null, .null, .null, .null, .int 0, .null, .int 0, .int 0]), (q_4, ob 6 [.ref q_1_8, .int (nI 40), .int 0]), (q_1_8, aJ E 120 (fun _ => 0)), (q_9, ob 6 [.ref q_2_13, .int (nI 100), .int 0]), (q_2_13, aJ E 300 (fun _ => 0)), (q_14, ob 6 [.ref q_3_18, .int (nI 60), .int 0]), (q_3_18, aJ E 180 (fun _ => 0)), (q_19, aI E 40 (fun _ => 0)), (q_20, aI E 1280 (fun _ => 0)), (q_21, aI E 1280 (fun _ => 0)), (q_22, aI E 320 (fun _ => 0)), (q_23, aI E 100 (fun _ => 0))] H := hP
  have hD : va_D A [(h0, ob 0 [.ref q_4, .ref q_9, .ref q_14, .ref q_19, .ref q_20, .ref q_21, .ref q_22, .ref q_23, .null, .null, .null, .null, .null, .null, .null, .null, .int 0, .null, .int 0, .int 0]), (q_4, ob 6 [.ref q_1_8, .int (nI 40), .int 0]), (q_1_8, aJ E 120 (fun _ => 0)), (q_9, ob 6 [.ref q_2_13, .int (nI 100), .int 0]), (q_2_13, aJ E 300 (fun _ => 0)), (q_14, ob 6 [.ref q_3_18, .int (nI 60), .int 0]), (q_3_18, aJ E 180 (fun _ => 0)), (q_19, aI E 40 (fun _ => 0)), (q_20, aI E 1280 (fun _ => 0)), (q_21, aI E 1280 (fun _ => 0)), (q_22, aI E 320 (fun _ => 0)), (q_23, aI E 100 (fun _ => 0))] := hD
  refine lv_aload_n hx hb dX0_init_86 rfl (lv_at hl 0 rfl) ?_
  refine lv_bipush (v := nI 100) hx hb dX0_init_87 (by decide) ?_
  refine cw_newa (E := E) (atype := .int) (ty := .int) (a0 := (100, .inl (fun _ => 0))) hx hb (hts _ wdA_int) rfl hK hP hD hS hA 1 rfl rfl (fun _ => rfl) (by decide) (by decide) (by decide) (by decide) (by decide) dX0_init_89 (fun q_24 H hP hD hS => ?_)
  have hP : va_P E.1 vwCl [(h0, ob 0 [.ref q_4, .ref q_9, .ref q_14, .ref q_19, .ref q_20, .ref q_21, .ref q_22, .ref q_23, .null, .null, .null, .null, .null, .null, .null, .null, .int 0, .null, .int 0, .int 0]), (q_4, ob 6 [.ref q_1_8, .int (nI 40), .int 0]), (q_1_8, aJ E 120 (fun _ => 0)), (q_9, ob 6 [.ref q_2_13, .int (nI 100), .int 0]), (q_2_13, aJ E 300 (fun _ => 0)), (q_14, ob 6 [.ref q_3_18, .int (nI 60), .int 0]), (q_3_18, aJ E 180 (fun _ => 0)), (q_19, aI E 40 (fun _ => 0)), (q_20, aI E 1280 (fun _ => 0)), (q_21, aI E 1280 (fun _ => 0)), (q_22, aI E 320 (fun _ => 0)), (q_23, aI E 100 (fun _ => 0)), (q_24, aI E 100 (fun _ => 0))] H := hP
  have hD : va_D A [(h0, ob 0 [.ref q_4, .ref q_9, .ref q_14, .ref q_19, .ref q_20, .ref q_21, .ref q_22, .ref q_23, .null, .null, .null, .null, .null, .null, .null, .null, .int 0, .null, .int 0, .int 0]), (q_4, ob 6 [.ref q_1_8, .int (nI 40), .int 0]), (q_1_8, aJ E 120 (fun _ => 0)), (q_9, ob 6 [.ref q_2_13, .int (nI 100), .int 0]), (q_2_13, aJ E 300 (fun _ => 0)), (q_14, ob 6 [.ref q_3_18, .int (nI 60), .int 0]), (q_3_18, aJ E 180 (fun _ => 0)), (q_19, aI E 40 (fun _ => 0)), (q_20, aI E 1280 (fun _ => 0)), (q_21, aI E 1280 (fun _ => 0)), (q_22, aI E 320 (fun _ => 0)), (q_23, aI E 100 (fun _ => 0)), (q_24, aI E 100 (fun _ => 0))] := hD
  refine W.widen (k := 12) (n := 3729) (by decide) (by decide) ?_
  refine va_putF (D := E.1) (ci := 0) (v := .ref q_24) (ty := .array .int) (C := RX0) (T := TX0) (N := 20) hx hb hts iX0 tyX0 tyX0_ok nmX0 hown hK hP hD hS 0 rfl rfl 8 (by decide) (hts _ wdF_RX0_42) (fun _ h9 => h9) rfl hin rfl (by decide +kernel) rfl rfl (Nat.le_of_ble_eq_true rfl) dX0_init_91 (fun H locs hP hD hS => ?_)
  have hP : va_P E.1 vwCl [(h0, ob 0 [.ref q_4, .ref q_9, .ref q_14, .ref q_19, .ref q_20, .ref q_21, .ref q_22, .ref q_23, .ref q_24, .null, .null, .null, .null, .null, .null, .null, .int 0, .null, .int 0, .int 0]), (q_4, ob 6 [.ref q_1_8, .int (nI 40), .int 0]), (q_1_8, aJ E 120 (fun _ => 0)), (q_9, ob 6 [.ref q_2_13, .int (nI 100), .int 0]), (q_2_13, aJ E 300 (fun _ => 0)), (q_14, ob 6 [.ref q_3_18, .int (nI 60), .int 0]), (q_3_18, aJ E 180 (fun _ => 0)), (q_19, aI E 40 (fun _ => 0)), (q_20, aI E 1280 (fun _ => 0)), (q_21, aI E 1280 (fun _ => 0)), (q_22, aI E 320 (fun _ => 0)), (q_23, aI E 100 (fun _ => 0)), (q_24, aI E 100 (fun _ => 0))] H := hP
  have hD : va_D A [(h0, ob 0 [.ref q_4, .ref q_9, .ref q_14, .ref q_19, .ref q_20, .ref q_21, .ref q_22, .ref q_23, .ref q_24, .null, .null, .null, .null, .null, .null, .null, .int 0, .null, .int 0, .int 0]), (q_4, ob 6 [.ref q_1_8, .int (nI 40), .int 0]), (q_1_8, aJ E 120 (fun _ => 0)), (q_9, ob 6 [.ref q_2_13, .int (nI 100), .int 0]), (q_2_13, aJ E 300 (fun _ => 0)), (q_14, ob 6 [.ref q_3_18, .int (nI 60), .int 0]), (q_3_18, aJ E 180 (fun _ => 0)), (q_19, aI E 40 (fun _ => 0)), (q_20, aI E 1280 (fun _ => 0)), (q_21, aI E 1280 (fun _ => 0)), (q_22, aI E 320 (fun _ => 0)), (q_23, aI E 100 (fun _ => 0)), (q_24, aI E 100 (fun _ => 0))] := hD
  refine lv_aload_n hx hb dX0_init_94 rfl (lv_at hl 0 rfl) ?_
  refine lv_bipush (v := nI 100) hx hb dX0_init_95 (by decide) ?_
  refine cw_newa (E := E) (atype := .int) (ty := .int) (a0 := (100, .inl (fun _ => 0))) hx hb (hts _ wdA_int) rfl hK hP hD hS hA 1 rfl rfl (fun _ => rfl) (by decide) (by decide) (by decide) (by decide) (by decide) dX0_init_97 (fun q_25 H hP hD hS => ?_)
  have hP : va_P E.1 vwCl [(h0, ob 0 [.ref q_4, .ref q_9, .ref q_14, .ref q_19, .ref q_20, .ref q_21, .ref q_22, .ref q_23, .ref q_24, .null, .null, .null, .null, .null, .null, .null, .int 0, .null, .int 0, .int 0]), (q_4, ob 6 [.ref q_1_8, .int (nI 40), .int 0]), (q_1_8, aJ E 120 (fun _ => 0)), (q_9, ob 6 [.ref q_2_13, .int (nI 100), .int 0]), (q_2_13, aJ E 300 (fun _ => 0)), (q_14, ob 6 [.ref q_3_18, .int (nI 60), .int 0]), (q_3_18, aJ E 180 (fun _ => 0)), (q_19, aI E 40 (fun _ => 0)), (q_20, aI E 1280 (fun _ => 0)), (q_21, aI E 1280 (fun _ => 0)), (q_22, aI E 320 (fun _ => 0)), (q_23, aI E 100 (fun _ => 0)), (q_24, aI E 100 (fun _ => 0)), (q_25, aI E 100 (fun _ => 0))] H := hP
  have hD : va_D A [(h0, ob 0 [.ref q_4, .ref q_9, .ref q_14, .ref q_19, .ref q_20, .ref q_21, .ref q_22, .ref q_23, .ref q_24, .null, .null, .null, .null, .null, .null, .null, .int 0, .null, .int 0, .int 0]), (q_4, ob 6 [.ref q_1_8, .int (nI 40), .int 0]), (q_1_8, aJ E 120 (fun _ => 0)), (q_9, ob 6 [.ref q_2_13, .int (nI 100), .int 0]), (q_2_13, aJ E 300 (fun _ => 0)), (q_14, ob 6 [.ref q_3_18, .int (nI 60), .int 0]), (q_3_18, aJ E 180 (fun _ => 0)), (q_19, aI E 40 (fun _ => 0)), (q_20, aI E 1280 (fun _ => 0)), (q_21, aI E 1280 (fun _ => 0)), (q_22, aI E 320 (fun _ => 0)), (q_23, aI E 100 (fun _ => 0)), (q_24, aI E 100 (fun _ => 0)), (q_25, aI E 100 (fun _ => 0))] := hD
  refine W.widen (k := 13) (n := 3829) (by decide) (by decide) ?_
  refine va_putF (D := E.1) (ci := 0) (v := .ref q_25) (ty := .array .int) (C := RX0) (T := TX0) (N := 20) hx hb hts iX0 tyX0 tyX0_ok nmX0 hown hK hP hD hS 0 rfl rfl 9 (by decide) (hts _ wdF_RX0_45) (fun _ h9 => h9) rfl hin rfl (by decide +kernel) rfl rfl (Nat.le_of_ble_eq_true rfl) dX0_init_99 (fun H locs hP hD hS => ?_)
  have hP : va_P E.1 vwCl [(h0, ob 0 [.ref q_4, .ref q_9, .ref q_14, .ref q_19, .ref q_20, .ref q_21, .ref q_22, .ref q_23, .ref q_24, .ref q_25, .null, .null, .null, .null, .null, .null, .int 0, .null, .int 0, .int 0]), (q_4, ob 6 [.ref q_1_8, .int (nI 40), .int 0]), (q_1_8, aJ E 120 (fun _ => 0)), (q_9, ob 6 [.ref q_2_13, .int (nI 100), .int 0]), (q_2_13, aJ E 300 (fun _ => 0)), (q_14, ob 6 [.ref q_3_18, .int (nI 60), .int 0]), (q_3_18, aJ E 180 (fun _ => 0)), (q_19, aI E 40 (fun _ => 0)), (q_20, aI E 1280 (fun _ => 0)), (q_21, aI E 1280 (fun _ => 0)), (q_22, aI E 320 (fun _ => 0)), (q_23, aI E 100 (fun _ => 0)), (q_24, aI E 100 (fun _ => 0)), (q_25, aI E 100 (fun _ => 0))] H := hP
  have hD : va_D A [(h0, ob 0 [.ref q_4, .ref q_9, .ref q_14, .ref q_19, .ref q_20, .ref q_21, .ref q_22, .ref q_23, .ref q_24, .ref q_25, .null, .null, .null, .null, .null, .null, .int 0, .null, .int 0, .int 0]), (q_4, ob 6 [.ref q_1_8, .int (nI 40), .int 0]), (q_1_8, aJ E 120 (fun _ => 0)), (q_9, ob 6 [.ref q_2_13, .int (nI 100), .int 0]), (q_2_13, aJ E 300 (fun _ => 0)), (q_14, ob 6 [.ref q_3_18, .int (nI 60), .int 0]), (q_3_18, aJ E 180 (fun _ => 0)), (q_19, aI E 40 (fun _ => 0)), (q_20, aI E 1280 (fun _ => 0)), (q_21, aI E 1280 (fun _ => 0)), (q_22, aI E 320 (fun _ => 0)), (q_23, aI E 100 (fun _ => 0)), (q_24, aI E 100 (fun _ => 0)), (q_25, aI E 100 (fun _ => 0))] := hD
  refine lv_aload_n hx hb dX0_init_102 rfl (lv_at hl 0 rfl) ?_
  refine lv_sipush (v := nI 800) hx hb dX0_init_103 (by decide) ?_
  refine cw_newa (E := E) (atype := .int) (ty := .int) (a0 := (800, .inl (fun _ => 0))) hx hb (hts _ wdA_int) rfl hK hP hD hS hA 1 rfl rfl (fun _ => rfl) (by decide) (by decide) (by decide) (by decide) (by decide) dX0_init_106 (fun q_26 H hP hD hS => ?_)
  have hP : va_P E.1 vwCl [(h0, ob 0 [.ref q_4, .ref q_9, .ref q_14, .ref q_19, .ref q_20, .ref q_21, .ref q_22, .ref q_23, .ref q_24, .ref q_25, .null, .null, .null, .null, .null, .null, .int 0, .null, .int 0, .int 0]), (q_4, ob 6 [.ref q_1_8, .int (nI 40), .int 0]), (q_1_8, aJ E 120 (fun _ => 0)), (q_9, ob 6 [.ref q_2_13, .int (nI 100), .int 0]), (q_2_13, aJ E 300 (fun _ => 0)), (q_14, ob 6 [.ref q_3_18, .int (nI 60), .int 0]), (q_3_18, aJ E 180 (fun _ => 0)), (q_19, aI E 40 (fun _ => 0)), (q_20, aI E 1280 (fun _ => 0)), (q_21, aI E 1280 (fun _ => 0)), (q_22, aI E 320 (fun _ => 0)), (q_23, aI E 100 (fun _ => 0)), (q_24, aI E 100 (fun _ => 0)), (q_25, aI E 100 (fun _ => 0)), (q_26, aI E 800 (fun _ => 0))] H := hP
  have hD : va_D A [(h0, ob 0 [.ref q_4, .ref q_9, .ref q_14, .ref q_19, .ref q_20, .ref q_21, .ref q_22, .ref q_23, .ref q_24, .ref q_25, .null, .null, .null, .null, .null, .null, .int 0, .null, .int 0, .int 0]), (q_4, ob 6 [.ref q_1_8, .int (nI 40), .int 0]), (q_1_8, aJ E 120 (fun _ => 0)), (q_9, ob 6 [.ref q_2_13, .int (nI 100), .int 0]), (q_2_13, aJ E 300 (fun _ => 0)), (q_14, ob 6 [.ref q_3_18, .int (nI 60), .int 0]), (q_3_18, aJ E 180 (fun _ => 0)), (q_19, aI E 40 (fun _ => 0)), (q_20, aI E 1280 (fun _ => 0)), (q_21, aI E 1280 (fun _ => 0)), (q_22, aI E 320 (fun _ => 0)), (q_23, aI E 100 (fun _ => 0)), (q_24, aI E 100 (fun _ => 0)), (q_25, aI E 100 (fun _ => 0)), (q_26, aI E 800 (fun _ => 0))] := hD
  refine W.widen (k := 14) (n := 4629) (by decide) (by decide) ?_
  refine va_putF (D := E.1) (ci := 0) (v := .ref q_26) (ty := .array .int) (C := RX0) (T := TX0) (N := 20) hx hb hts iX0 tyX0 tyX0_ok nmX0 hown hK hP hD hS 0 rfl rfl 10 (by decide) (hts _ wdF_RX0_48) (fun _ h9 => h9) rfl hin rfl (by decide +kernel) rfl rfl (Nat.le_of_ble_eq_true rfl) dX0_init_108 (fun H locs hP hD hS => ?_)
  have hP : va_P E.1 vwCl [(h0, ob 0 [.ref q_4, .ref q_9, .ref q_14, .ref q_19, .ref q_20, .ref q_21, .ref q_22, .ref q_23, .ref q_24, .ref q_25, .ref q_26, .null, .null, .null, .null, .null, .int 0, .null, .int 0, .int 0]), (q_4, ob 6 [.ref q_1_8, .int (nI 40), .int 0]), (q_1_8, aJ E 120 (fun _ => 0)), (q_9, ob 6 [.ref q_2_13, .int (nI 100), .int 0]), (q_2_13, aJ E 300 (fun _ => 0)), (q_14, ob 6 [.ref q_3_18, .int (nI 60), .int 0]), (q_3_18, aJ E 180 (fun _ => 0)), (q_19, aI E 40 (fun _ => 0)), (q_20, aI E 1280 (fun _ => 0)), (q_21, aI E 1280 (fun _ => 0)), (q_22, aI E 320 (fun _ => 0)), (q_23, aI E 100 (fun _ => 0)), (q_24, aI E 100 (fun _ => 0)), (q_25, aI E 100 (fun _ => 0)), (q_26, aI E 800 (fun _ => 0))] H := hP
  have hD : va_D A [(h0, ob 0 [.ref q_4, .ref q_9, .ref q_14, .ref q_19, .ref q_20, .ref q_21, .ref q_22, .ref q_23, .ref q_24, .ref q_25, .ref q_26, .null, .null, .null, .null, .null, .int 0, .null, .int 0, .int 0]), (q_4, ob 6 [.ref q_1_8, .int (nI 40), .int 0]), (q_1_8, aJ E 120 (fun _ => 0)), (q_9, ob 6 [.ref q_2_13, .int (nI 100), .int 0]), (q_2_13, aJ E 300 (fun _ => 0)), (q_14, ob 6 [.ref q_3_18, .int (nI 60), .int 0]), (q_3_18, aJ E 180 (fun _ => 0)), (q_19, aI E 40 (fun _ => 0)), (q_20, aI E 1280 (fun _ => 0)), (q_21, aI E 1280 (fun _ => 0)), (q_22, aI E 320 (fun _ => 0)), (q_23, aI E 100 (fun _ => 0)), (q_24, aI E 100 (fun _ => 0)), (q_25, aI E 100 (fun _ => 0)), (q_26, aI E 800 (fun _ => 0))] := hD
  refine lv_aload_n hx hb dX0_init_111 rfl (lv_at hl 0 rfl) ?_
  refine lv_sipush (v := nI 800) hx hb dX0_init_112 (by decide) ?_
  refine cw_newa (E := E) (atype := .int) (ty := .int) (a0 := (800, .inl (fun _ => 0))) hx hb (hts _ wdA_int) rfl hK hP hD hS hA 1 rfl rfl (fun _ => rfl) (by decide) (by decide) (by decide) (by decide) (by decide) dX0_init_115 (fun q_27 H hP hD hS => ?_)
  have hP : va_P E.1 vwCl [(h0, ob 0 [.ref q_4, .ref q_9, .ref q_14, .ref q_19, .ref q_20, .ref q_21, .ref q_22, .ref q_23, .ref q_24, .ref q_25, .ref q_26, .null, .null, .null, .null, .null, .int 0, .null, .int 0, .int 0]), (q_4, ob 6 [.ref q_1_8, .int (nI 40), .int 0]), (q_1_8, aJ E 120 (fun _ => 0)), (q_9, ob 6 [.ref q_2_13, .int (nI 100), .int 0]), (q_2_13, aJ E 300 (fun _ => 0)), (q_14, ob 6 [.ref q_3_18, .int (nI 60), .int 0]), (q_3_18, aJ E 180 (fun _ => 0)), (q_19, aI E 40 (fun _ => 0)), (q_20, aI E 1280 (fun _ => 0)), (q_21, aI E 1280 (fun _ => 0)), (q_22, aI E 320 (fun _ => 0)), (q_23, aI E 100 (fun _ => 0)), (q_24, aI E 100 (fun _ => 0)), (q_25, aI E 100 (fun _ => 0)), (q_26, aI E 800 (fun _ => 0)), (q_27, aI E 800 (fun _ => 0))] H := hP
  have hD : va_D A [(h0, ob 0 [.ref q_4, .ref q_9, .ref q_14, .ref q_19, .ref q_20, .ref q_21, .ref q_22, .ref q_23, .ref q_24, .ref q_25, .ref q_26, .null, .null, .null, .null, .null, .int 0, .null, .int 0, .int 0]), (q_4, ob 6 [.ref q_1_8, .int (nI 40), .int 0]), (q_1_8, aJ E 120 (fun _ => 0)), (q_9, ob 6 [.ref q_2_13, .int (nI 100), .int 0]), (q_2_13, aJ E 300 (fun _ => 0)), (q_14, ob 6 [.ref q_3_18, .int (nI 60), .int 0]), (q_3_18, aJ E 180 (fun _ => 0)), (q_19, aI E 40 (fun _ => 0)), (q_20, aI E 1280 (fun _ => 0)), (q_21, aI E 1280 (fun _ => 0)), (q_22, aI E 320 (fun _ => 0)), (q_23, aI E 100 (fun _ => 0)), (q_24, aI E 100 (fun _ => 0)), (q_25, aI E 100 (fun _ => 0)), (q_26, aI E 800 (fun _ => 0)), (q_27, aI E 800 (fun _ => 0))] := hD
  refine W.widen (k := 15) (n := 5429) (by decide) (by decide) ?_
  refine va_putF (D := E.1) (ci := 0) (v := .ref q_27) (ty := .array .int) (C := RX0) (T := TX0) (N := 20) hx hb hts iX0 tyX0 tyX0_ok nmX0 hown hK hP hD hS 0 rfl rfl 11 (by decide) (hts _ wdF_RX0_51) (fun _ h9 => h9) rfl hin rfl (by decide +kernel) rfl rfl (Nat.le_of_ble_eq_true rfl) dX0_init_117 (fun H locs hP hD hS => ?_)
  have hP : va_P E.1 vwCl [(h0, ob 0 [.ref q_4, .ref q_9, .ref q_14, .ref q_19, .ref q_20, .ref q_21, .ref q_22, .ref q_23, .ref q_24, .ref q_25, .ref q_26, .ref q_27, .null, .null, .null, .null, .int 0, .null, .int 0, .int 0]), (q_4, ob 6 [.ref q_1_8, .int (nI 40), .int 0]), (q_1_8, aJ E 120 (fun _ => 0)), (q_9, ob 6 [.ref q_2_13, .int (nI 100), .int 0]), (q_2_13, aJ E 300 (fun _ => 0)), (q_14, ob 6 [.ref q_3_18, .int (nI 60), .int 0]), (q_3_18, aJ E 180 (fun _ => 0)), (q_19, aI E 40 (fun _ => 0)), (q_20, aI E 1280 (fun _ => 0)), (q_21, aI E 1280 (fun _ => 0)), (q_22, aI E 320 (fun _ => 0)), (q_23, aI E 100 (fun _ => 0)), (q_24, aI E 100 (fun _ => 0)), (q_25, aI E 100 (fun _ => 0)), (q_26, aI E 800 (fun _ => 0)), (q_27, aI E 800 (fun _ => 0))] H := hP
  have hD : va_D A [(h0, ob 0 [.ref q_4, .ref q_9, .ref q_14, .ref q_19, .ref q_20, .ref q_21, .ref q_22, .ref q_23, .ref q_24, .ref q_25, .ref q_26, .ref q_27, .null, .null, .null, .null, .int 0, .null, .int 0, .int 0]), (q_4, ob 6 [.ref q_1_8, .int (nI 40), .int 0]), (q_1_8, aJ E 120 (fun _ => 0)), (q_9, ob 6 [.ref q_2_13, .int (nI 100), .int 0]), (q_2_13, aJ E 300 (fun _ => 0)), (q_14, ob 6 [.ref q_3_18, .int (nI 60), .int 0]), (q_3_18, aJ E 180 (fun _ => 0)), (q_19, aI E 40 (fun _ => 0)), (q_20, aI E 1280 (fun _ => 0)), (q_21, aI E 1280 (fun _ => 0)), (q_22, aI E 320 (fun _ => 0)), (q_23, aI E 100 (fun _ => 0)), (q_24, aI E 100 (fun _ => 0)), (q_25, aI E 100 (fun _ => 0)), (q_26, aI E 800 (fun _ => 0)), (q_27, aI E 800 (fun _ => 0))] := hD
  refine lv_aload_n hx hb dX0_init_120 rfl (lv_at hl 0 rfl) ?_
  refine lv_sipush (v := nI 800) hx hb dX0_init_121 (by decide) ?_
  refine cw_newa (E := E) (atype := .int) (ty := .int) (a0 := (800, .inl (fun _ => 0))) hx hb (hts _ wdA_int) rfl hK hP hD hS hA 1 rfl rfl (fun _ => rfl) (by decide) (by decide) (by decide) (by decide) (by decide) dX0_init_124 (fun q_28 H hP hD hS => ?_)
  have hP : va_P E.1 vwCl [(h0, ob 0 [.ref q_4, .ref q_9, .ref q_14, .ref q_19, .ref q_20, .ref q_21, .ref q_22, .ref q_23, .ref q_24, .ref q_25, .ref q_26, .ref q_27, .null, .null, .null, .null, .int 0, .null, .int 0, .int 0]), (q_4, ob 6 [.ref q_1_8, .int (nI 40), .int 0]), (q_1_8, aJ E 120 (fun _ => 0)), (q_9, ob 6 [.ref q_2_13, .int (nI 100), .int 0]), (q_2_13, aJ E 300 (fun _ => 0)), (q_14, ob 6 [.ref q_3_18, .int (nI 60), .int 0]), (q_3_18, aJ E 180 (fun _ => 0)), (q_19, aI E 40 (fun _ => 0)), (q_20, aI E 1280 (fun _ => 0)), (q_21, aI E 1280 (fun _ => 0)), (q_22, aI E 320 (fun _ => 0)), (q_23, aI E 100 (fun _ => 0)), (q_24, aI E 100 (fun _ => 0)), (q_25, aI E 100 (fun _ => 0)), (q_26, aI E 800 (fun _ => 0)), (q_27, aI E 800 (fun _ => 0)), (q_28, aI E 800 (fun _ => 0))] H := hP
  have hD : va_D A [(h0, ob 0 [.ref q_4, .ref q_9, .ref q_14, .ref q_19, .ref q_20, .ref q_21, .ref q_22, .ref q_23, .ref q_24, .ref q_25, .ref q_26, .ref q_27, .null, .null, .null, .null, .int 0, .null, .int 0, .int 0]), (q_4, ob 6 [.ref q_1_8, .int (nI 40), .int 0]), (q_1_8, aJ E 120 (fun _ => 0)), (q_9, ob 6 [.ref q_2_13, .int (nI 100), .int 0]), (q_2_13, aJ E 300 (fun _ => 0)), (q_14, ob 6 [.ref q_3_18, .int (nI 60), .int 0]), (q_3_18, aJ E 180 (fun _ => 0)), (q_19, aI E 40 (fun _ => 0)), (q_20, aI E 1280 (fun _ => 0)), (q_21, aI E 1280 (fun _ => 0)), (q_22, aI E 320 (fun _ => 0)), (q_23, aI E 100 (fun _ => 0)), (q_24, aI E 100 (fun _ => 0)), (q_25, aI E 100 (fun _ => 0)), (q_26, aI E 800 (fun _ => 0)), (q_27, aI E 800 (fun _ => 0)), (q_28, aI E 800 (fun _ => 0))] := hD
  refine W.widen (k := 16) (n := 6229) (by decide) (by decide) ?_
  refine va_putF (D := E.1) (ci := 0) (v := .ref q_28) (ty := .array .int) (C := RX0) (T := TX0) (N := 20) hx hb hts iX0 tyX0 tyX0_ok nmX0 hown hK hP hD hS 0 rfl rfl 12 (by decide) (hts _ wdF_RX0_54) (fun _ h9 => h9) rfl hin rfl (by decide +kernel) rfl rfl (Nat.le_of_ble_eq_true rfl) dX0_init_126 (fun H locs hP hD hS => ?_)
  have hP : va_P E.1 vwCl [(h0, ob 0 [.ref q_4, .ref q_9, .ref q_14, .ref q_19, .ref q_20, .ref q_21, .ref q_22, .ref q_23, .ref q_24, .ref q_25, .ref q_26, .ref q_27, .ref q_28, .null, .null, .null, .int 0, .null, .int 0, .int 0]), (q_4, ob 6 [.ref q_1_8, .int (nI 40), .int 0]), (q_1_8, aJ E 120 (fun _ => 0)), (q_9, ob 6 [.ref q_2_13, .int (nI 100), .int 0]), (q_2_13, aJ E 300 (fun _ => 0)), (q_14, ob 6 [.ref q_3_18, .int (nI 60), .int 0]), (q_3_18, aJ E 180 (fun _ => 0)), (q_19, aI E 40 (fun _ => 0)), (q_20, aI E 1280 (fun _ => 0)), (q_21, aI E 1280 (fun _ => 0)), (q_22, aI E 320 (fun _ => 0)), (q_23, aI E 100 (fun _ => 0)), (q_24, aI E 100 (fun _ => 0)), (q_25, aI E 100 (fun _ => 0)), (q_26, aI E 800 (fun _ => 0)), (q_27, aI E 800 (fun _ => 0)), (q_28, aI E 800 (fun _ => 0))] H := hP
  have hD : va_D A [(h0, ob 0 [.ref q_4, .ref q_9, .ref q_14, .ref q_19, .ref q_20, .ref q_21, .ref q_22, .ref q_23, .ref q_24, .ref q_25, .ref q_26, .ref q_27, .ref q_28, .null, .null, .null, .int 0, .null, .int 0, .int 0]), (q_4, ob 6 [.ref q_1_8, .int (nI 40), .int 0]), (q_1_8, aJ E 120 (fun _ => 0)), (q_9, ob 6 [.ref q_2_13, .int (nI 100), .int 0]), (q_2_13, aJ E 300 (fun _ => 0)), (q_14, ob 6 [.ref q_3_18, .int (nI 60), .int 0]), (q_3_18, aJ E 180 (fun _ => 0)), (q_19, aI E 40 (fun _ => 0)), (q_20, aI E 1280 (fun _ => 0)), (q_21, aI E 1280 (fun _ => 0)), (q_22, aI E 320 (fun _ => 0)), (q_23, aI E 100 (fun _ => 0)), (q_24, aI E 100 (fun _ => 0)), (q_25, aI E 100 (fun _ => 0)), (q_26, aI E 800 (fun _ => 0)), (q_27, aI E 800 (fun _ => 0)), (q_28, aI E 800 (fun _ => 0))] := hD
  refine lv_aload_n hx hb dX0_init_129 rfl (lv_at hl 0 rfl) ?_
  refine lv_bipush (v := nI 60) hx hb dX0_init_130 (by decide) ?_
  refine cw_newa (E := E) (atype := .int) (ty := .int) (a0 := (60, .inl (fun _ => 0))) hx hb (hts _ wdA_int) rfl hK hP hD hS hA 1 rfl rfl (fun _ => rfl) (by decide) (by decide) (by decide) (by decide) (by decide) dX0_init_132 (fun q_29 H hP hD hS => ?_)
  have hP : va_P E.1 vwCl [(h0, ob 0 [.ref q_4, .ref q_9, .ref q_14, .ref q_19, .ref q_20, .ref q_21, .ref q_22, .ref q_23, .ref q_24, .ref q_25, .ref q_26, .ref q_27, .ref q_28, .null, .null, .null, .int 0, .null, .int 0, .int 0]), (q_4, ob 6 [.ref q_1_8, .int (nI 40), .int 0]), (q_1_8, aJ E 120 (fun _ => 0)), (q_9, ob 6 [.ref q_2_13, .int (nI 100), .int 0]), (q_2_13, aJ E 300 (fun _ => 0)), (q_14, ob 6 [.ref q_3_18, .int (nI 60), .int 0]), (q_3_18, aJ E 180 (fun _ => 0)), (q_19, aI E 40 (fun _ => 0)), (q_20, aI E 1280 (fun _ => 0)), (q_21, aI E 1280 (fun _ => 0)), (q_22, aI E 320 (fun _ => 0)), (q_23, aI E 100 (fun _ => 0)), (q_24, aI E 100 (fun _ => 0)), (q_25, aI E 100 (fun _ => 0)), (q_26, aI E 800 (fun _ => 0)), (q_27, aI E 800 (fun _ => 0)), (q_28, aI E 800 (fun _ => 0)), (q_29, aI E 60 (fun _ => 0))] H := hP
  have hD : va_D A [(h0, ob 0 [.ref q_4, .ref q_9, .ref q_14, .ref q_19, .ref q_20, .ref q_21, .ref q_22, .ref q_23, .ref q_24, .ref q_25, .ref q_26, .ref q_27, .ref q_28, .null, .null, .null, .int 0, .null, .int 0, .int 0]), (q_4, ob 6 [.ref q_1_8, .int (nI 40), .int 0]), (q_1_8, aJ E 120 (fun _ => 0)), (q_9, ob 6 [.ref q_2_13, .int (nI 100), .int 0]), (q_2_13, aJ E 300 (fun _ => 0)), (q_14, ob 6 [.ref q_3_18, .int (nI 60), .int 0]), (q_3_18, aJ E 180 (fun _ => 0)), (q_19, aI E 40 (fun _ => 0)), (q_20, aI E 1280 (fun _ => 0)), (q_21, aI E 1280 (fun _ => 0)), (q_22, aI E 320 (fun _ => 0)), (q_23, aI E 100 (fun _ => 0)), (q_24, aI E 100 (fun _ => 0)), (q_25, aI E 100 (fun _ => 0)), (q_26, aI E 800 (fun _ => 0)), (q_27, aI E 800 (fun _ => 0)), (q_28, aI E 800 (fun _ => 0)), (q_29, aI E 60 (fun _ => 0))] := hD
  refine W.widen (k := 17) (n := 6289) (by decide) (by decide) ?_
  refine va_putF (D := E.1) (ci := 0) (v := .ref q_29) (ty := .array .int) (C := RX0) (T := TX0) (N := 20) hx hb hts iX0 tyX0 tyX0_ok nmX0 hown hK hP hD hS 0 rfl rfl 13 (by decide) (hts _ wdF_RX0_57) (fun _ h9 => h9) rfl hin rfl (by decide +kernel) rfl rfl (Nat.le_of_ble_eq_true rfl) dX0_init_134 (fun H locs hP hD hS => ?_)
  have hP : va_P E.1 vwCl [(h0, ob 0 [.ref q_4, .ref q_9, .ref q_14, .ref q_19, .ref q_20, .ref q_21, .ref q_22, .ref q_23, .ref q_24, .ref q_25, .ref q_26, .ref q_27, .ref q_28, .ref q_29, .null, .null, .int 0, .null, .int 0, .int 0]), (q_4, ob 6 [.ref q_1_8, .int (nI 40), .int 0]), (q_1_8, aJ E 120 (fun _ => 0)), (q_9, ob 6 [.ref q_2_13, .int (nI 100), .int 0]), (q_2_13, aJ E 300 (fun _ => 0)), (q_14, ob 6 [.ref q_3_18, .int (nI 60), .int 0]), (q_3_18, aJ E 180 (fun _ => 0)), (q_19, aI E 40 (fun _ => 0)), (q_20, aI E 1280 (fun _ => 0)), (q_21, aI E 1280 (fun _ => 0)), (q_22, aI E 320 (fun _ => 0)), (q_23, aI E 100 (fun _ => 0)), (q_24, aI E 100 (fun _ => 0)), (q_25, aI E 100 (fun _ => 0)), (q_26, aI E 800 (fun _ => 0)), (q_27, aI E 800 (fun _ => 0)), (q_28, aI E 800 (fun _ => 0)), (q_29, aI E 60 (fun _ => 0))] H := hP
  have hD : va_D A [(h0, ob 0 [.ref q_4, .ref q_9, .ref q_14, .ref q_19, .ref q_20, .ref q_21, .ref q_22, .ref q_23, .ref q_24, .ref q_25, .ref q_26, .ref q_27, .ref q_28, .ref q_29, .null, .null, .int 0, .null, .int 0, .int 0]), (q_4, ob 6 [.ref q_1_8, .int (nI 40), .int 0]), (q_1_8, aJ E 120 (fun _ => 0)), (q_9, ob 6 [.ref q_2_13, .int (nI 100), .int 0]), (q_2_13, aJ E 300 (fun _ => 0)), (q_14, ob 6 [.ref q_3_18, .int (nI 60), .int 0]), (q_3_18, aJ E 180 (fun _ => 0)), (q_19, aI E 40 (fun _ => 0)), (q_20, aI E 1280 (fun _ => 0)), (q_21, aI E 1280 (fun _ => 0)), (q_22, aI E 320 (fun _ => 0)), (q_23, aI E 100 (fun _ => 0)), (q_24, aI E 100 (fun _ => 0)), (q_25, aI E 100 (fun _ => 0)), (q_26, aI E 800 (fun _ => 0)), (q_27, aI E 800 (fun _ => 0)), (q_28, aI E 800 (fun _ => 0)), (q_29, aI E 60 (fun _ => 0))] := hD
  refine lv_aload_n hx hb dX0_init_137 rfl (lv_at hl 0 rfl) ?_
  refine lv_bipush (v := nI 32) hx hb dX0_init_138 (by decide) ?_
  refine cw_newa (E := E) (atype := .int) (ty := .int) (a0 := (32, .inl (fun _ => 0))) hx hb (hts _ wdA_int) rfl hK hP hD hS hA 1 rfl rfl (fun _ => rfl) (by decide) (by decide) (by decide) (by decide) (by decide) dX0_init_140 (fun q_30 H hP hD hS => ?_)
  have hP : va_P E.1 vwCl [(h0, ob 0 [.ref q_4, .ref q_9, .ref q_14, .ref q_19, .ref q_20, .ref q_21, .ref q_22, .ref q_23, .ref q_24, .ref q_25, .ref q_26, .ref q_27, .ref q_28, .ref q_29, .null, .null, .int 0, .null, .int 0, .int 0]), (q_4, ob 6 [.ref q_1_8, .int (nI 40), .int 0]), (q_1_8, aJ E 120 (fun _ => 0)), (q_9, ob 6 [.ref q_2_13, .int (nI 100), .int 0]), (q_2_13, aJ E 300 (fun _ => 0)), (q_14, ob 6 [.ref q_3_18, .int (nI 60), .int 0]), (q_3_18, aJ E 180 (fun _ => 0)), (q_19, aI E 40 (fun _ => 0)), (q_20, aI E 1280 (fun _ => 0)), (q_21, aI E 1280 (fun _ => 0)), (q_22, aI E 320 (fun _ => 0)), (q_23, aI E 100 (fun _ => 0)), (q_24, aI E 100 (fun _ => 0)), (q_25, aI E 100 (fun _ => 0)), (q_26, aI E 800 (fun _ => 0)), (q_27, aI E 800 (fun _ => 0)), (q_28, aI E 800 (fun _ => 0)), (q_29, aI E 60 (fun _ => 0)), (q_30, aI E 32 (fun _ => 0))] H := hP
  have hD : va_D A [(h0, ob 0 [.ref q_4, .ref q_9, .ref q_14, .ref q_19, .ref q_20, .ref q_21, .ref q_22, .ref q_23, .ref q_24, .ref q_25, .ref q_26, .ref q_27, .ref q_28, .ref q_29, .null, .null, .int 0, .null, .int 0, .int 0]), (q_4, ob 6 [.ref q_1_8, .int (nI 40), .int 0]), (q_1_8, aJ E 120 (fun _ => 0)), (q_9, ob 6 [.ref q_2_13, .int (nI 100), .int 0]), (q_2_13, aJ E 300 (fun _ => 0)), (q_14, ob 6 [.ref q_3_18, .int (nI 60), .int 0]), (q_3_18, aJ E 180 (fun _ => 0)), (q_19, aI E 40 (fun _ => 0)), (q_20, aI E 1280 (fun _ => 0)), (q_21, aI E 1280 (fun _ => 0)), (q_22, aI E 320 (fun _ => 0)), (q_23, aI E 100 (fun _ => 0)), (q_24, aI E 100 (fun _ => 0)), (q_25, aI E 100 (fun _ => 0)), (q_26, aI E 800 (fun _ => 0)), (q_27, aI E 800 (fun _ => 0)), (q_28, aI E 800 (fun _ => 0)), (q_29, aI E 60 (fun _ => 0)), (q_30, aI E 32 (fun _ => 0))] := hD
  refine W.widen (k := 18) (n := 6321) (by decide) (by decide) ?_
  refine va_putF (D := E.1) (ci := 0) (v := .ref q_30) (ty := .array .int) (C := RX0) (T := TX0) (N := 20) hx hb hts iX0 tyX0 tyX0_ok nmX0 hown hK hP hD hS 0 rfl rfl 14 (by decide) (hts _ wdF_RX0_60) (fun _ h9 => h9) rfl hin rfl (by decide +kernel) rfl rfl (Nat.le_of_ble_eq_true rfl) dX0_init_142 (fun H locs hP hD hS => ?_)
  have hP : va_P E.1 vwCl [(h0, ob 0 [.ref q_4, .ref q_9, .ref q_14, .ref q_19, .ref q_20, .ref q_21, .ref q_22, .ref q_23, .ref q_24, .ref q_25, .ref q_26, .ref q_27, .ref q_28, .ref q_29, .ref q_30, .null, .int 0, .null, .int 0, .int 0]), (q_4, ob 6 [.ref q_1_8, .int (nI 40), .int 0]), (q_1_8, aJ E 120 (fun _ => 0)), (q_9, ob 6 [.ref q_2_13, .int (nI 100), .int 0]), (q_2_13, aJ E 300 (fun _ => 0)), (q_14, ob 6 [.ref q_3_18, .int (nI 60), .int 0]), (q_3_18, aJ E 180 (fun _ => 0)), (q_19, aI E 40 (fun _ => 0)), (q_20, aI E 1280 (fun _ => 0)), (q_21, aI E 1280 (fun _ => 0)), (q_22, aI E 320 (fun _ => 0)), (q_23, aI E 100 (fun _ => 0)), (q_24, aI E 100 (fun _ => 0)), (q_25, aI E 100 (fun _ => 0)), (q_26, aI E 800 (fun _ => 0)), (q_27, aI E 800 (fun _ => 0)), (q_28, aI E 800 (fun _ => 0)), (q_29, aI E 60 (fun _ => 0)), (q_30, aI E 32 (fun _ => 0))] H := hP
  have hD : va_D A [(h0, ob 0 [.ref q_4, .ref q_9, .ref q_14, .ref q_19, .ref q_20, .ref q_21, .ref q_22, .ref q_23, .ref q_24, .ref q_25, .ref q_26, .ref q_27, .ref q_28, .ref q_29, .ref q_30, .null, .int 0, .null, .int 0, .int 0]), (q_4, ob 6 [.ref q_1_8, .int (nI 40), .int 0]), (q_1_8, aJ E 120 (fun _ => 0)), (q_9, ob 6 [.ref q_2_13, .int (nI 100), .int 0]), (q_2_13, aJ E 300 (fun _ => 0)), (q_14, ob 6 [.ref q_3_18, .int (nI 60), .int 0]), (q_3_18, aJ E 180 (fun _ => 0)), (q_19, aI E 40 (fun _ => 0)), (q_20, aI E 1280 (fun _ => 0)), (q_21, aI E 1280 (fun _ => 0)), (q_22, aI E 320 (fun _ => 0)), (q_23, aI E 100 (fun _ => 0)), (q_24, aI E 100 (fun _ => 0)), (q_25, aI E 100 (fun _ => 0)), (q_26, aI E 800 (fun _ => 0)), (q_27, aI E 800 (fun _ => 0)), (q_28, aI E 800 (fun _ => 0)), (q_29, aI E 60 (fun _ => 0)), (q_30, aI E 32 (fun _ => 0))] := hD
  refine lv_aload_n hx hb dX0_init_145 rfl (lv_at hl 0 rfl) ?_
  refine lv_bipush (v := nI 32) hx hb dX0_init_146 (by decide) ?_
  refine cw_newa (E := E) (atype := .int) (ty := .int) (a0 := (32, .inl (fun _ => 0))) hx hb (hts _ wdA_int) rfl hK hP hD hS hA 1 rfl rfl (fun _ => rfl) (by decide) (by decide) (by decide) (by decide) (by decide) dX0_init_148 (fun q_31 H hP hD hS => ?_)
  have hP : va_P E.1 vwCl [(h0, ob 0 [.ref q_4, .ref q_9, .ref q_14, .ref q_19, .ref q_20, .ref q_21, .ref q_22, .ref q_23, .ref q_24, .ref q_25, .ref q_26, .ref q_27, .ref q_28, .ref q_29, .ref q_30, .null, .int 0, .null, .int 0, .int 0]), (q_4, ob 6 [.ref q_1_8, .int (nI 40), .int 0]), (q_1_8, aJ E 120 (fun _ => 0)), (q_9, ob 6 [.ref q_2_13, .int (nI 100), .int 0]), (q_2_13, aJ E 300 (fun _ => 0)), (q_14, ob 6 [.ref q_3_18, .int (nI 60), .int 0]), (q_3_18, aJ E 180 (fun _ => 0)), (q_19, aI E 40 (fun _ => 0)), (q_20, aI E 1280 (fun _ => 0)), (q_21, aI E 1280 (fun _ => 0)), (q_22, aI E 320 (fun _ => 0)), (q_23, aI E 100 (fun _ => 0)), (q_24, aI E 100 (fun _ => 0)), (q_25, aI E 100 (fun _ => 0)), (q_26, aI E 800 (fun _ => 0)), (q_27, aI E 800 (fun _ => 0)), (q_28, aI E 800 (fun _ => 0)), (q_29, aI E 60 (fun _ => 0)), (q_30, aI E 32 (fun _ => 0)), (q_31, aI E 32 (fun _ => 0))] H := hP
  have hD : va_D A [(h0, ob 0 [.ref q_4, .ref q_9, .ref q_14, .ref q_19, .ref q_20, .ref q_21, .ref q_22, .ref q_23, .ref q_24, .ref q_25, .ref q_26, .ref q_27, .ref q_28, .ref q_29, .ref q_30, .null, .int 0, .null, .int 0, .int 0]), (q_4, ob 6 [.ref q_1_8, .int (nI 40), .int 0]), (q_1_8, aJ E 120 (fun _ => 0)), (q_9, ob 6 [.ref q_2_13, .int (nI 100), .int 0]), (q_2_13, aJ E 300 (fun _ => 0)), (q_14, ob 6 [.ref q_3_18, .int (nI 60), .int 0]), (q_3_18, aJ E 180 (fun _ => 0)), (q_19, aI E 40 (fun _ => 0)), (q_20, aI E 1280 (fun _ => 0)), (q_21, aI E 1280 (fun _ => 0)), (q_22, aI E 320 (fun _ => 0)), (q_23, aI E 100 (fun _ => 0)), (q_24, aI E 100 (fun _ => 0)), (q_25, aI E 100 (fun _ => 0)), (q_26, aI E 800 (fun _ => 0)), (q_27, aI E 800 (fun _ => 0)), (q_28, aI E 800 (fun _ => 0)), (q_29, aI E 60 (fun _ => 0)), (q_30, aI E 32 (fun _ => 0)), (q_31, aI E 32 (fun _ => 0))] := hD
  refine W.widen (k := 19) (n := 6353) (by decide) (by decide) ?_
  refine va_putF (D := E.1) (ci := 0) (v := .ref q_31) (ty := .array .int) (C := RX0) (T := TX0) (N := 20) hx hb hts iX0 tyX0 tyX0_ok nmX0 hown hK hP hD hS 0 rfl rfl 15 (by decide) (hts _ wdF_RX0_63) (fun _ h9 => h9) rfl hin rfl (by decide +kernel) rfl rfl (Nat.le_of_ble_eq_true rfl) dX0_init_150 (fun H locs hP hD hS => ?_)
  have hP : va_P E.1 vwCl [(h0, ob 0 [.ref q_4, .ref q_9, .ref q_14, .ref q_19, .ref q_20, .ref q_21, .ref q_22, .ref q_23, .ref q_24, .ref q_25, .ref q_26, .ref q_27, .ref q_28, .ref q_29, .ref q_30, .ref q_31, .int 0, .null, .int 0, .int 0]), (q_4, ob 6 [.ref q_1_8, .int (nI 40), .int 0]), (q_1_8, aJ E 120 (fun _ => 0)), (q_9, ob 6 [.ref q_2_13, .int (nI 100), .int 0]), (q_2_13, aJ E 300 (fun _ => 0)), (q_14, ob 6 [.ref q_3_18, .int (nI 60), .int 0]), (q_3_18, aJ E 180 (fun _ => 0)), (q_19, aI E 40 (fun _ => 0)), (q_20, aI E 1280 (fun _ => 0)), (q_21, aI E 1280 (fun _ => 0)), (q_22, aI E 320 (fun _ => 0)), (q_23, aI E 100 (fun _ => 0)), (q_24, aI E 100 (fun _ => 0)), (q_25, aI E 100 (fun _ => 0)), (q_26, aI E 800 (fun _ => 0)), (q_27, aI E 800 (fun _ => 0)), (q_28, aI E 800 (fun _ => 0)), (q_29, aI E 60 (fun _ => 0)), (q_30, aI E 32 (fun _ => 0)), (q_31, aI E 32 (fun _ => 0))] H := hP
  have hD : va_D A [(h0, ob 0 [.ref q_4, .ref q_9, .ref q_14, .ref q_19, .ref q_20, .ref q_21, .ref q_22, .ref q_23, .ref q_24, .ref q_25, .ref q_26, .ref q_27, .ref q_28, .ref q_29, .ref q_30, .ref q_31, .int 0, .null, .int 0, .int 0]), (q_4, ob 6 [.ref q_1_8, .int (nI 40), .int 0]), (q_1_8, aJ E 120 (fun _ => 0)), (q_9, ob 6 [.ref q_2_13, .int (nI 100), .int 0]), (q_2_13, aJ E 300 (fun _ => 0)), (q_14, ob 6 [.ref q_3_18, .int (nI 60), .int 0]), (q_3_18, aJ E 180 (fun _ => 0)), (q_19, aI E 40 (fun _ => 0)), (q_20, aI E 1280 (fun _ => 0)), (q_21, aI E 1280 (fun _ => 0)), (q_22, aI E 320 (fun _ => 0)), (q_23, aI E 100 (fun _ => 0)), (q_24, aI E 100 (fun _ => 0)), (q_25, aI E 100 (fun _ => 0)), (q_26, aI E 800 (fun _ => 0)), (q_27, aI E 800 (fun _ => 0)), (q_28, aI E 800 (fun _ => 0)), (q_29, aI E 60 (fun _ => 0)), (q_30, aI E 32 (fun _ => 0)), (q_31, aI E 32 (fun _ => 0))] := hD
  refine lv_aload_n hx hb dX0_init_153 rfl (lv_at hl 0 rfl) ?_
  refine lv_sipush (v := nI 10098) hx hb dX0_init_154 (by decide) ?_
  refine cw_newa (E := E) (atype := .int) (ty := .int) (a0 := (10098, .inl (fun _ => 0))) hx hb (hts _ wdA_int) rfl hK hP hD hS hA 1 rfl rfl (fun _ => rfl) (by decide) (by decide) (by decide) (by decide) (by decide) dX0_init_157 (fun q_32 H hP hD hS => ?_)
  have hP : va_P E.1 vwCl [(h0, ob 0 [.ref q_4, .ref q_9, .ref q_14, .ref q_19, .ref q_20, .ref q_21, .ref q_22, .ref q_23, .ref q_24, .ref q_25, .ref q_26, .ref q_27, .ref q_28, .ref q_29, .ref q_30, .ref q_31, .int 0, .null, .int 0, .int 0]), (q_4, ob 6 [.ref q_1_8, .int (nI 40), .int 0]), (q_1_8, aJ E 120 (fun _ => 0)), (q_9, ob 6 [.ref q_2_13, .int (nI 100), .int 0]), (q_2_13, aJ E 300 (fun _ => 0)), (q_14, ob 6 [.ref q_3_18, .int (nI 60), .int 0]), (q_3_18, aJ E 180 (fun _ => 0)), (q_19, aI E 40 (fun _ => 0)), (q_20, aI E 1280 (fun _ => 0)), (q_21, aI E 1280 (fun _ => 0)), (q_22, aI E 320 (fun _ => 0)), (q_23, aI E 100 (fun _ => 0)), (q_24, aI E 100 (fun _ => 0)), (q_25, aI E 100 (fun _ => 0)), (q_26, aI E 800 (fun _ => 0)), (q_27, aI E 800 (fun _ => 0)), (q_28, aI E 800 (fun _ => 0)), (q_29, aI E 60 (fun _ => 0)), (q_30, aI E 32 (fun _ => 0)), (q_31, aI E 32 (fun _ => 0)), (q_32, aI E 10098 (fun _ => 0))] H := hP
  have hD : va_D A [(h0, ob 0 [.ref q_4, .ref q_9, .ref q_14, .ref q_19, .ref q_20, .ref q_21, .ref q_22, .ref q_23, .ref q_24, .ref q_25, .ref q_26, .ref q_27, .ref q_28, .ref q_29, .ref q_30, .ref q_31, .int 0, .null, .int 0, .int 0]), (q_4, ob 6 [.ref q_1_8, .int (nI 40), .int 0]), (q_1_8, aJ E 120 (fun _ => 0)), (q_9, ob 6 [.ref q_2_13, .int (nI 100), .int 0]), (q_2_13, aJ E 300 (fun _ => 0)), (q_14, ob 6 [.ref q_3_18, .int (nI 60), .int 0]), (q_3_18, aJ E 180 (fun _ => 0)), (q_19, aI E 40 (fun _ => 0)), (q_20, aI E 1280 (fun _ => 0)), (q_21, aI E 1280 (fun _ => 0)), (q_22, aI E 320 (fun _ => 0)), (q_23, aI E 100 (fun _ => 0)), (q_24, aI E 100 (fun _ => 0)), (q_25, aI E 100 (fun _ => 0)), (q_26, aI E 800 (fun _ => 0)), (q_27, aI E 800 (fun _ => 0)), (q_28, aI E 800 (fun _ => 0)), (q_29, aI E 60 (fun _ => 0)), (q_30, aI E 32 (fun _ => 0)), (q_31, aI E 32 (fun _ => 0)), (q_32, aI E 10098 (fun _ => 0))] := hD
  refine W.widen (k := 20) (n := 16451) (by decide) (by decide) ?_
  refine va_putF (D := E.1) (ci := 0) (v := .ref q_32) (ty := .array .int) (C := RX0) (T := TX0) (N := 20) hx hb hts iX0 tyX0 tyX0_ok nmX0 hown hK hP hD hS 0 rfl rfl 17 (by decide) (hts _ wdF_RX0_66) (fun _ h9 => h9) rfl hin rfl (by decide +kernel) rfl rfl (Nat.le_of_ble_eq_true rfl) dX0_init_159 (fun H locs hP hD hS => ?_)
  have hP : va_P E.1 vwCl [(h0, ob 0 [.ref q_4, .ref q_9, .ref q_14, .ref q_19, .ref q_20, .ref q_21, .ref q_22, .ref q_23, .ref q_24, .ref q_25, .ref q_26, .ref q_27, .ref q_28, .ref q_29, .ref q_30, .ref q_31, .int 0, .ref q_32, .int 0, .int 0]), (q_4, ob 6 [.ref q_1_8, .int (nI 40), .int 0]), (q_1_8, aJ E 120 (fun _ => 0)), (q_9, ob 6 [.ref q_2_13, .int (nI 100), .int 0]), (q_2_13, aJ E 300 (fun _ => 0)), (q_14, ob 6 [.ref q_3_18, .int (nI 60), .int 0]), (q_3_18, aJ E 180 (fun _ => 0)), (q_19, aI E 40 (fun _ => 0)), (q_20, aI E 1280 (fun _ => 0)), (q_21, aI E 1280 (fun _ => 0)), (q_22, aI E 320 (fun _ => 0)), (q_23, aI E 100 (fun _ => 0)), (q_24, aI E 100 (fun _ => 0)), (q_25, aI E 100 (fun _ => 0)), (q_26, aI E 800 (fun _ => 0)), (q_27, aI E 800 (fun _ => 0)), (q_28, aI E 800 (fun _ => 0)), (q_29, aI E 60 (fun _ => 0)), (q_30, aI E 32 (fun _ => 0)), (q_31, aI E 32 (fun _ => 0)), (q_32, aI E 10098 (fun _ => 0))] H := hP
  have hD : va_D A [(h0, ob 0 [.ref q_4, .ref q_9, .ref q_14, .ref q_19, .ref q_20, .ref q_21, .ref q_22, .ref q_23, .ref q_24, .ref q_25, .ref q_26, .ref q_27, .ref q_28, .ref q_29, .ref q_30, .ref q_31, .int 0, .ref q_32, .int 0, .int 0]), (q_4, ob 6 [.ref q_1_8, .int (nI 40), .int 0]), (q_1_8, aJ E 120 (fun _ => 0)), (q_9, ob 6 [.ref q_2_13, .int (nI 100), .int 0]), (q_2_13, aJ E 300 (fun _ => 0)), (q_14, ob 6 [.ref q_3_18, .int (nI 60), .int 0]), (q_3_18, aJ E 180 (fun _ => 0)), (q_19, aI E 40 (fun _ => 0)), (q_20, aI E 1280 (fun _ => 0)), (q_21, aI E 1280 (fun _ => 0)), (q_22, aI E 320 (fun _ => 0)), (q_23, aI E 100 (fun _ => 0)), (q_24, aI E 100 (fun _ => 0)), (q_25, aI E 100 (fun _ => 0)), (q_26, aI E 800 (fun _ => 0)), (q_27, aI E 800 (fun _ => 0)), (q_28, aI E 800 (fun _ => 0)), (q_29, aI E 60 (fun _ => 0)), (q_30, aI E 32 (fun _ => 0)), (q_31, aI E 32 (fun _ => 0)), (q_32, aI E 10098 (fun _ => 0))] := hD
  exact cV_ret F hP hD hS hK (q_4, q_1_8, q_9, q_2_13, q_14, q_3_18, q_19, q_20, q_21, q_22, q_23, q_24, q_25, q_26, q_27, q_28, q_29, q_30, q_31, q_32) trivial [0, 1, 2, 3, 4, 5, 6, 7, 8, 9, 10, 11, 12, 13, 14, 15, 16, 17, 18, 19, 20] rfl rfl dX0_init_162 (by decide) (by decide)
theorem yy_X0_init : cY yX0_init cX0_init 1 none 0 := ⟨wdK_X0_init, wdZ_RX0, by decide +kernel⟩
theorem dX2_init_0 : decode cX2_init 0 = .ok (.aload_n 0, 1) := by decide +kernel
theorem dX2_init_1 : decode cX2_init 1 = .ok (.invokespecial 3, 3) := by decide +kernel
theorem dX2_init_4 : decode cX2_init 4 = .ok (.aload_n 0, 1) := by decide +kernel
theorem dX2_init_5 : decode cX2_init 5 = .ok (.sipush 2560, 3) := by decide +kernel
theorem dX2_init_8 : decode cX2_init 8 = .ok (.newarray .byte, 2) := by decide +kernel
theorem dX2_init_10 : decode cX2_init 10 = .ok (.putfield 9, 3) := by decide +kernel
theorem dX2_init_13 : decode cX2_init 13 = .ok (.aload_n 0, 1) := by decide +kernel
theorem dX2_init_14 : decode cX2_init 14 = .ok (.bipush 40, 2) := by decide +kernel
theorem dX2_init_16 : decode cX2_init 16 = .ok (.newarray .byte, 2) := by decide +kernel
theorem dX2_init_18 : decode cX2_init 18 = .ok (.putfield 15, 3) := by decide +kernel
theorem dX2_init_21 : decode cX2_init 21 = .ok (.aload_n 0, 1) := by decide +kernel
theorem dX2_init_22 : decode cX2_init 22 = .ok (.bipush 65, 2) := by decide +kernel
theorem dX2_init_24 : decode cX2_init 24 = .ok (.newarray .int, 2) := by decide +kernel
theorem dX2_init_26 : decode cX2_init 26 = .ok (.putfield 18, 3) := by decide +kernel
theorem dX2_init_29 : decode cX2_init 29 = .ok (.aload_n 0, 1) := by decide +kernel
theorem dX2_init_30 : decode cX2_init 30 = .ok (.bipush 65, 2) := by decide +kernel
theorem dX2_init_32 : decode cX2_init 32 = .ok (.newarray .int, 2) := by decide +kernel
theorem dX2_init_34 : decode cX2_init 34 = .ok (.putfield 22, 3) := by decide +kernel
theorem dX2_init_37 : decode cX2_init 37 = .ok (.aload_n 0, 1) := by decide +kernel
theorem dX2_init_38 : decode cX2_init 38 = .ok (.bipush 65, 2) := by decide +kernel
theorem dX2_init_40 : decode cX2_init 40 = .ok (.newarray .long, 2) := by decide +kernel
theorem dX2_init_42 : decode cX2_init 42 = .ok (.putfield 25, 3) := by decide +kernel
theorem dX2_init_45 : decode cX2_init 45 = .ok (.aload_n 0, 1) := by decide +kernel
theorem dX2_init_46 : decode cX2_init 46 = .ok (.aload_n 1, 1) := by decide +kernel
theorem dX2_init_47 : decode cX2_init 47 = .ok (.putfield 29, 3) := by decide +kernel
theorem dX2_init_50 : decode cX2_init 50 = .ok (.return_, 1) := by decide +kernel
abbrev rm_c_X2_init : Room := { frames := 1, cells := 5, slots := 2795, locals := 20 }
set_option maxHeartbeats 4000000 in
set_option maxRecDepth 100000 in
theorem c_X2_init (l : Launch) (E : cE) (h0 : Nat) (a1 : Nat) : cM l E yX2_init cX2_init 2 none rm_c_X2_init [.ref h0, .ref a1] [(h0, ob 2 [.null, .null, .null, .null, .int 0, .long 0, .null, .null, .null, .int 0])] (qV E (fun (u : Nat × Nat × Nat × Nat × Nat) => match u with | (q_33, q_34, q_35, q_36, q_37) => True) (fun (u : Nat × Nat × Nat × Nat × Nat) => match u with | (q_33, q_34, q_35, q_36, q_37) => [(h0, ob 2 [.ref a1, .ref q_33, .ref q_34, .null, .int 0, .long 0, .ref q_35, .ref q_36, .ref q_37, .int 0]), (q_33, aB E 2560 (fun _ => 0)), (q_34, aB E 40 (fun _ => 0)), (q_35, aI E 65 (fun _ => 0)), (q_36, aI E 65 (fun _ => 0)), (q_37, aJ E 65 (fun _ => 0))])) := by
  refine cM_of (by decide) (Nat.le_of_ble_eq_true rfl) ?_
  intro p e s m below meth c ls A F hA hS hP hD hK hZ hl
  obtain ⟨hx, hb, hr, hml, hown, hts, hlk, hin⟩ := id F
  have hown : s.vm.findClass RX2 = some m.cls := hown
  have hin : meth.name = "<init>" := hin
  have hl : lv_has ls 2 [(0, .ref h0), (1, .ref a1)] := hl
  refine lv_aload_n hx hb dX2_init_0 rfl (lv_at hl 0 rfl) ?_
  refine W.objInit hx hb hown (hts _ wdM_RX2_3) (hts _ wd_oi) (hts _ wd_oc) rfl (by rw [hml]; exact hl.1) rfl dX2_init_1 (by decide) (Nat.le_of_ble_eq_true rfl) ?_
  refine W.eq (g2 := F0 m 4 ls []) rfl ?_
  refine lv_aload_n hx hb dX2_init_4 rfl (lv_at hl 0 rfl) ?_
  refine lv_sipush (v := nI 2560) hx hb dX2_init_5 (by decide) ?_
  refine cw_newa (E := E) (atype := .byte) (ty := .byte) (a0 := (2560, .inl (fun _ => 0))) hx hb (hts _ wdA_byte) rfl hK hP hD hS hA 0 rfl rfl (fun _ => rfl) (by decide) (by decide) (by decide) (by decide) (by decide) dX2_init_8 (fun q_33 H hP hD hS => ?_)
  have hP : va_P E.1 vwCl [(h0, ob 2 [.null, .null, .null, .null, .int 0, .long 0, .null, .null, .null, .int 0]), (q_33, aB E 2560 (fun _ => 0))] H := hP
  have hD : va_D A [(h0, ob 2 [.null, .null, .null, .null, .int 0, .long 0, .null, .null, .null, .int 0]), (q_33, aB E 2560 (fun _ => 0))] := hD
  refine W.widen (k := 1) (n := 2560) (by decide) (by decide) ?_
  refine va_putF (D := E.1) (ci := 2) (v := .ref q_33) (ty := .array .byte) (C := RX2) (T := TX2) (N := 10) hx hb hts iX2 tyX2 tyX2_ok nmX2 hown hK hP hD hS 0 rfl rfl 1 (by decide) (hts _ wdF_RX2_9) (fun _ h9 => h9) rfl hin rfl (by decide +kernel) rfl rfl (Nat.le_of_ble_eq_true rfl) dX2_init_10 (fun H locs hP hD hS => ?_)
  have hP : va_P E.1 vwCl [(h0, ob 2 [.null, .ref q_33, .null, .null, .int 0, .long 0, .null, .null, .null, .int 0]), (q_33, aB E 2560 (fun _ => 0))] H := hP
  have hD : va_D A [(h0, ob 2 [.null, .ref q_33, .null, .null, .int 0, .long 0, .null, .null, .null, .int 0]), (q_33, aB E 2560 (fun _ => 0))] := hD
  refine lv_aload_n hx hb dX2_init_13 rfl (lv_at hl 0 rfl) ?_
  refine lv_bipush (v := nI 40) hx hb dX2_init_14 (by decide) ?_
  refine cw_newa (E := E) (atype := .byte) (ty := .byte) (a0 := (40, .inl (fun _ => 0))) hx hb (hts _ wdA_byte) rfl hK hP hD hS hA 0 rfl rfl (fun _ => rfl) (by decide) (by decide) (by decide) (by decide) (by decide) dX2_init_16 (fun q_34 H hP hD hS => ?_)
  have hP : va_P E.1 vwCl [(h0, ob 2 [.null, .ref q_33, .null, .null, .int 0, .long 0, .null, .null, .null, .int 0]), (q_33, aB E 2560 (fun _ => 0)), (q_34, aB E 40 (fun _ => 0))] H := hP
  have hD : va_D A [(h0, ob 2 [.null, .ref q_33, .null, .null, .int 0, .long 0, .null, .null, .null, .int 0]), (q_33, aB E 2560 (fun _ => 0)), (q_34, aB E 40 (fun _ => 0))] := hD
  refine W.widen (k := 2) (n := 2600) (by decide) (by decide) ?_
  refine va_putF (D := E.1) (ci := 2) (v := .ref q_34) (ty := .array .byte) (C := RX2) (T := TX2) (N := 10) hx hb hts iX2 tyX2 tyX2_ok nmX2 hown hK hP hD hS 0 rfl rfl 2 (by decide) (hts _ wdF_RX2_15) (fun _ h9 => h9) rfl hin rfl (by decide +kernel) rfl rfl (Nat.le_of_ble_eq_true rfl) dX2_init_18 (fun H locs hP hD hS => ?_)
  have hP : va_P E.1 vwCl [(h0, ob 2 [.null, .ref q_33, .ref q_34, .null, .int 0, .long 0, .null, .null, .null, .int 0]), (q_33, aB E 2560 (fun _ => 0)), (q_34, aB E 40 (fun _ => 0))] H := hP
  have hD : va_D A [(h0, ob 2 [.null, .ref q_33, .ref q_34, .null, .int 0, .long 0, .null, .null, .null, .int 0]), (q_33, aB E 2560 (fun _ => 0)), (q_34, aB E 40 (fun _ => 0))] := hD
  refine lv_aload_n hx hb dX2_init_21 rfl (lv_at hl 0 rfl) ?_
  refine lv_bipush (v := nI 65) hx hb dX2_init_22 (by decide) ?_
  refine cw_newa (E := E) (atype := .int) (ty := .int) (a0 := (65, .inl (fun _ => 0))) hx hb (hts _ wdA_int) rfl hK hP hD hS hA 1 rfl rfl (fun _ => rfl) (by decide) (by decide) (by decide) (by decide) (by decide) dX2_init_24 (fun q_35 H hP hD hS => ?_)
  have hP : va_P E.1 vwCl [(h0, ob 2 [.null, .ref q_33, .ref q_34, .null, .int 0, .long 0, .null, .null, .null, .int 0]), (q_33, aB E 2560 (fun _ => 0)), (q_34, aB E 40 (fun _ => 0)), (q_35, aI E 65 (fun _ => 0))] H := hP
  have hD : va_D A [(h0, ob 2 [.null, .ref q_33, .ref q_34, .null, .int 0, .long 0, .null, .null, .null, .int 0]), (q_33, aB E 2560 (fun _ => 0)), (q_34, aB E 40 (fun _ => 0)), (q_35, aI E 65 (fun _ => 0))] := hD
  refine W.widen (k := 3) (n := 2665) (by decide) (by decide) ?_
  refine va_putF (D := E.1) (ci := 2) (v := .ref q_35) (ty := .array .int) (C := RX2) (T := TX2) (N := 10) hx hb hts iX2 tyX2 tyX2_ok nmX2 hown hK hP hD hS 0 rfl rfl 6 (by decide) (hts _ wdF_RX2_18) (fun _ h9 => h9) rfl hin rfl (by decide +kernel) rfl rfl (Nat.le_of_ble_eq_true rfl) dX2_init_26 (fun H locs hP hD hS => ?_)
  have hP : va_P E.1 vwCl [(h0, ob 2 [.null, .ref q_33, .ref q_34, .null, .int 0, .long 0, .ref q_35, .null, .null, .int 0]), (q_33, aB E 2560 (fun _ => 0)), (q_34, aB E 40 (fun _ => 0)), (q_35, aI E 65 (fun _ => 0))] H := hP
  have hD : va_D A [(h0, ob 2 [.null, .ref q_33, .ref q_34, .null, .int 0, .long 0, .ref q_35, .null, .null, .int 0]), (q_33, aB E 2560 (fun _ => 0)), (q_34, aB E 40 (fun _ => 0)), (q_35, aI E 65 (fun _ => 0))] := hD
  refine lv_aload_n hx hb dX2_init_29 rfl (lv_at hl 0 rfl) ?_
  refine lv_bipush (v := nI 65) hx hb dX2_init_30 (by decide) ?_
  refine cw_newa (E := E) (atype := .int) (ty := .int) (a0 := (65, .inl (fun _ => 0))) hx hb (hts _ wdA_int) rfl hK hP hD hS hA 1 rfl rfl (fun _ => rfl) (by decide) (by decide) (by decide) (by decide) (by decide) dX2_init_32 (fun q_36 H hP hD hS => ?_)
  have hP : va_P E.1 vwCl [(h0, ob 2 [.null, .ref q_33, .ref q_34, .null, .int 0, .long 0, .ref q_35, .null, .null, .int 0]), (q_33, aB E 2560 (fun _ => 0)), (q_34, aB E 40 (fun _ => 0)), (q_35, aI E 65 (fun _ => 0)), (q_36, aI E 65 (fun _ => 0))] H := hP
  have hD : va_D A [(h0, ob 2 [.null, .ref q_33, .ref q_34, .null, .int 0, .long 0, .ref q_35, .null, .null, .int 0]), (q_33, aB E 2560 (fun _ => 0)), (q_34, aB E 40 (fun _ => 0)), (q_35, aI E 65 (fun _ => 0)), (q_36, aI E 65 (fun _ => 0))] := hD
  refine W.widen (k := 4) (n := 2730) (by decide) (by decide) ?_
  refine va_putF (D := E.1) (ci := 2) (v := .ref q_36) (ty := .array .int) (C := RX2) (T := TX2) (N := 10) hx hb hts iX2 tyX2 tyX2_ok nmX2 hown hK hP hD hS 0 rfl rfl 7 (by decide) (hts _ wdF_RX2_22) (fun _ h9 => h9) rfl hin rfl (by decide +kernel) rfl rfl (Nat.le_of_ble_eq_true rfl) dX2_init_34 (fun H locs hP hD hS => ?_)
  have hP : va_P E.1 vwCl [(h0, ob 2 [.null, .ref q_33, .ref q_34, .null, .int 0, .long 0, .ref q_35, .ref q_36, .null, .int 0]), (q_33, aB E 2560 (fun _ => 0)), (q_34, aB E 40 (fun _ => 0)), (q_35, aI E 65 (fun _ => 0)), (q_36, aI E 65 (fun _ => 0))] H := hP
  have hD : va_D A [(h0, ob 2 [.null, .ref q_33, .ref q_34, .null, .int 0, .long 0, .ref q_35, .ref q_36, .null, .int 0]), (q_33, aB E 2560 (fun _ => 0)), (q_34, aB E 40 (fun _ => 0)), (q_35, aI E 65 (fun _ => 0)), (q_36, aI E 65 (fun _ => 0))] := hD
  refine lv_aload_n hx hb dX2_init_37 rfl (lv_at hl 0 rfl) ?_
  refine lv_bipush (v := nI 65) hx hb dX2_init_38 (by decide) ?_
  refine cw_newa (E := E) (atype := .long) (ty := .long) (a0 := (65, .inr (.inl (fun _ => 0)))) hx hb (hts _ wdA_long) rfl hK hP hD hS hA 2 rfl rfl (fun _ => rfl) (by decide) (by decide) (by decide) (by decide) (by decide) dX2_init_40 (fun q_37 H hP hD hS => ?_)
  have hP : va_P E.1 vwCl [(h0, ob 2 [.null, .ref q_33, .ref q_34, .null, .int 0, .long 0, .ref q_35, .ref q_36, .null, .int 0]), (q_33, aB E 2560 (fun _ => 0)), (q_34, aB E 40 (fun _ => 0)), (q_35, aI E 65 (fun _ => 0)), (q_36, aI E 65 (fun _ => 0)), (q_37, aJ E 65 (fun _ => 0))] H := hP
  have hD : va_D A [(h0, ob 2 [.null, .ref q_33, .ref q_34, .null, .int 0, .long 0, .ref q_35, .ref q_36, .null, .int 0]), (q_33, aB E 2560 (fun _ => 0)), (q_34, aB E 40 (fun _ => 0)), (q_35, aI E 65 (fun _ => 0)), (q_36, aI E 65 (fun _ => 0)), (q_37, aJ E 65 (fun _ => 0))] := hD
  refine W.widen (k := 5) (n := 2795) (by decide) (by decide) ?_
  refine va_putF (D := E.1) (ci := 2) (v := .ref q_37) (ty := .array .long) (C := RX2) (T := TX2) (N := 10) hx hb hts iX2 tyX2 tyX2_ok nmX2 hown hK hP hD hS 0 rfl rfl 8 (by decide) (hts _ wdF_RX2_25) (fun _ h9 => h9) rfl hin rfl (by decide +kernel) rfl rfl (Nat.le_of_ble_eq_true rfl) dX2_init_42 (fun H locs hP hD hS => ?_)
  have hP : va_P E.1 vwCl [(h0, ob 2 [.null, .ref q_33, .ref q_34, .null, .int 0, .long 0, .ref q_35, .ref q_36, .ref q_37, .int 0]), (q_33, aB E 2560 (fun _ => 0)), (q_34, aB E 40 (fun _ => 0)), (q_35, aI E 65 (fun _ => 0)), (q_36, aI E 65 (fun _ => 0)), (q_37, aJ E 65 (fun _ => 0))] H := hP
  have hD : va_D A [(h0, ob 2 [.null, .ref q_33, .ref q_34, .null, .int 0, .long 0, .ref q_35, .ref q_36, .ref q_37, .int 0]), (q_33, aB E 2560 (fun _ => 0)), (q_34, aB E 40 (fun _ => 0)), (q_35, aI E 65 (fun _ => 0)), (q_36, aI E 65 (fun _ => 0)), (q_37, aJ E 65 (fun _ => 0))] := hD
  refine lv_aload_n hx hb dX2_init_45 rfl (lv_at hl 0 rfl) ?_
  refine lv_aload_n hx hb dX2_init_46 rfl (lv_at hl 1 rfl) ?_
  refine va_putF (D := E.1) (ci := 2) (v := .ref a1) (ty := .object "CallerHall$Book") (C := RX2) (T := TX2) (N := 10) hx hb hts iX2 tyX2 tyX2_ok nmX2 hown hK hP hD hS 0 rfl rfl 0 (by decide) (hts _ wdF_RX2_29) (fun _ h9 => h9) rfl hin rfl (by decide +kernel) rfl rfl (Nat.le_of_ble_eq_true rfl) dX2_init_47 (fun H locs hP hD hS => ?_)
  have hP : va_P E.1 vwCl [(h0, ob 2 [.ref a1, .ref q_33, .ref q_34, .null, .int 0, .long 0, .ref q_35, .ref q_36, .ref q_37, .int 0]), (q_33, aB E 2560 (fun _ => 0)), (q_34, aB E 40 (fun _ => 0)), (q_35, aI E 65 (fun _ => 0)), (q_36, aI E 65 (fun _ => 0)), (q_37, aJ E 65 (fun _ => 0))] H := hP
  have hD : va_D A [(h0, ob 2 [.ref a1, .ref q_33, .ref q_34, .null, .int 0, .long 0, .ref q_35, .ref q_36, .ref q_37, .int 0]), (q_33, aB E 2560 (fun _ => 0)), (q_34, aB E 40 (fun _ => 0)), (q_35, aI E 65 (fun _ => 0)), (q_36, aI E 65 (fun _ => 0)), (q_37, aJ E 65 (fun _ => 0))] := hD
  exact cV_ret F hP hD hS hK (q_33, q_34, q_35, q_36, q_37) trivial [0, 1, 2, 3, 4, 5] rfl rfl dX2_init_50 (by decide) (by decide)
theorem yy_X2_init : cY yX2_init cX2_init 2 none 1 := ⟨wdK_X2_init, wdZ_RX2, by decide +kernel⟩
theorem dX1_init_0 : decode cX1_init 0 = .ok (.aload_n 0, 1) := by decide +kernel
theorem dX1_init_1 : decode cX1_init 1 = .ok (.invokespecial 3, 3) := by decide +kernel
theorem dX1_init_4 : decode cX1_init 4 = .ok (.aload_n 0, 1) := by decide +kernel
theorem dX1_init_5 : decode cX1_init 5 = .ok (.bipush 96, 2) := by decide +kernel
theorem dX1_init_7 : decode cX1_init 7 = .ok (.newarray .long, 2) := by decide +kernel
theorem dX1_init_9 : decode cX1_init 9 = .ok (.putfield 11, 3) := by decide +kernel
theorem dX1_init_12 : decode cX1_init 12 = .ok (.aload_n 0, 1) := by decide +kernel
theorem dX1_init_13 : decode cX1_init 13 = .ok (.iconst 4, 1) := by decide +kernel
theorem dX1_init_14 : decode cX1_init 14 = .ok (.newarray .long, 2) := by decide +kernel
theorem dX1_init_16 : decode cX1_init 16 = .ok (.putfield 15, 3) := by decide +kernel
theorem dX1_init_19 : decode cX1_init 19 = .ok (.aload_n 0, 1) := by decide +kernel
theorem dX1_init_20 : decode cX1_init 20 = .ok (.iconst 4, 1) := by decide +kernel
theorem dX1_init_21 : decode cX1_init 21 = .ok (.newarray .int, 2) := by decide +kernel
theorem dX1_init_23 : decode cX1_init 23 = .ok (.putfield 18, 3) := by decide +kernel
theorem dX1_init_26 : decode cX1_init 26 = .ok (.aload_n 0, 1) := by decide +kernel
theorem dX1_init_27 : decode cX1_init 27 = .ok (.bipush 64, 2) := by decide +kernel
theorem dX1_init_29 : decode cX1_init 29 = .ok (.newarray .int, 2) := by decide +kernel
theorem dX1_init_31 : decode cX1_init 31 = .ok (.putfield 22, 3) := by decide +kernel
theorem dX1_init_34 : decode cX1_init 34 = .ok (.aload_n 0, 1) := by decide +kernel
theorem dX1_init_35 : decode cX1_init 35 = .ok (.bipush 64, 2) := by decide +kernel
theorem dX1_init_37 : decode cX1_init 37 = .ok (.newarray .int, 2) := by decide +kernel
theorem dX1_init_39 : decode cX1_init 39 = .ok (.putfield 25, 3) := by decide +kernel
theorem dX1_init_42 : decode cX1_init 42 = .ok (.aload_n 0, 1) := by decide +kernel
theorem dX1_init_43 : decode cX1_init 43 = .ok (.bipush 64, 2) := by decide +kernel
theorem dX1_init_45 : decode cX1_init 45 = .ok (.newarray .int, 2) := by decide +kernel
theorem dX1_init_47 : decode cX1_init 47 = .ok (.putfield 28, 3) := by decide +kernel
theorem dX1_init_50 : decode cX1_init 50 = .ok (.aload_n 0, 1) := by decide +kernel
theorem dX1_init_51 : decode cX1_init 51 = .ok (.bipush 64, 2) := by decide +kernel
theorem dX1_init_53 : decode cX1_init 53 = .ok (.newarray .int, 2) := by decide +kernel
theorem dX1_init_55 : decode cX1_init 55 = .ok (.putfield 31, 3) := by decide +kernel
theorem dX1_init_58 : decode cX1_init 58 = .ok (.aload_n 0, 1) := by decide +kernel
theorem dX1_init_59 : decode cX1_init 59 = .ok (.sipush 512, 3) := by decide +kernel
theorem dX1_init_62 : decode cX1_init 62 = .ok (.newarray .int, 2) := by decide +kernel
theorem dX1_init_64 : decode cX1_init 64 = .ok (.putfield 34, 3) := by decide +kernel
theorem dX1_init_67 : decode cX1_init 67 = .ok (.aload_n 0, 1) := by decide +kernel
theorem dX1_init_68 : decode cX1_init 68 = .ok (.sipush 4096, 3) := by decide +kernel
theorem dX1_init_71 : decode cX1_init 71 = .ok (.newarray .int, 2) := by decide +kernel
theorem dX1_init_73 : decode cX1_init 73 = .ok (.putfield 37, 3) := by decide +kernel
theorem dX1_init_76 : decode cX1_init 76 = .ok (.aload_n 0, 1) := by decide +kernel
theorem dX1_init_77 : decode cX1_init 77 = .ok (.aload_n 1, 1) := by decide +kernel
theorem dX1_init_78 : decode cX1_init 78 = .ok (.putfield 40, 3) := by decide +kernel
theorem dX1_init_81 : decode cX1_init 81 = .ok (.aload_n 0, 1) := by decide +kernel
theorem dX1_init_82 : decode cX1_init 82 = .ok (.new 44, 3) := by decide +kernel
theorem dX1_init_85 : decode cX1_init 85 = .ok (.dup, 1) := by decide +kernel
theorem dX1_init_86 : decode cX1_init 86 = .ok (.aload_n 1, 1) := by decide +kernel
theorem dX1_init_87 : decode cX1_init 87 = .ok (.invokespecial 46, 3) := by decide +kernel
theorem dX1_init_90 : decode cX1_init 90 = .ok (.putfield 49, 3) := by decide +kernel
theorem dX1_init_93 : decode cX1_init 93 = .ok (.return_, 1) := by decide +kernel
abbrev rm_c_X1_init : Room := { frames := 2, cells := 15, slots := 7773, locals := 41 }
set_option maxHeartbeats 4000000 in
set_option maxRecDepth 100000 in
theorem c_X1_init (l : Launch) (E : cE) (h0 : Nat) (a1 : Nat) : cM l E yX1_init cX1_init 2 none rm_c_X1_init [.ref h0, .ref a1] [(h0, ob 1 [.null, .null, .null, .null, .null, .null, .null, .null, .null, .null, .null, .int 0, .int 0, .int 0, .int 0, .int 0, .int 0])] (qV E (fun (u : Nat × Nat × Nat × Nat × Nat × Nat × Nat × Nat × Nat × Nat × Nat × Nat × Nat × Nat × Nat) => match u with | (q_38, q_39, q_40, q_41, q_42, q_43, q_44, q_45, q_46, q_47, q_33_51, q_34_52, q_35_53, q_36_54, q_37_55) => True) (fun (u : Nat × Nat × Nat × Nat × Nat × Nat × Nat × Nat × Nat × Nat × Nat × Nat × Nat × Nat × Nat) => match u with | (q_38, q_39, q_40, q_41, q_42, q_43, q_44, q_45, q_46, q_47, q_33_51, q_34_52, q_35_53, q_36_54, q_37_55) => [(h0, ob 1 [.ref a1, .ref q_47, .ref q_38, .ref q_39, .ref q_40, .ref q_41, .ref q_42, .ref q_43, .ref q_44, .ref q_45, .ref q_46, .int 0, .int 0, .int 0, .int 0, .int 0, .int 0]), (q_38, aJ E 96 (fun _ => 0)), (q_39, aJ E 4 (fun _ => 0)), (q_40, aI E 4 (fun _ => 0)), (q_41, aI E 64 (fun _ => 0)), (q_42, aI E 64 (fun _ => 0)), (q_43, aI E 64 (fun _ => 0)), (q_44, aI E 64 (fun _ => 0)), (q_45, aI E 512 (fun _ => 0)), (q_46, aI E 4096 (fun _ => 0)), (q_47, ob 2 [.ref a1, .ref q_33_51, .ref q_34_52, .null, .int 0, .long 0, .ref q_35_53, .ref q_36_54, .ref q_37_55, .int 0]), (q_33_51, aB E 2560 (fun _ => 0)), (q_34_52, aB E 40 (fun _ => 0)), (q_35_53, aI E 65 (fun _ => 0)), (q_36_54, aI E 65 (fun _ => 0)), (q_37_55, aJ E 65 (fun _ => 0))])) := by
  refine cM_of (by decide) (Nat.le_of_ble_eq_true rfl) ?_
  intro p e s m below meth c ls A F hA hS hP hD hK hZ hl
  obtain ⟨hx, hb, hr, hml, hown, hts, hlk, hin⟩ := id F
  have hown : s.vm.findClass RX1 = some m.cls := hown
  have hin : meth.name = "<init>" := hin
  have hl : lv_has ls 2 [(0, .ref h0), (1, .ref a1)] := hl
  refine lv_aload_n hx hb dX1_init_0 rfl (lv_at hl 0 rfl) ?_
  refine W.objInit hx hb hown (hts _ wdM_RX1_3) (hts _ wd_oi) (hts _ wd_oc) rfl (by rw [hml]; exact hl.1) rfl dX1_init_1 (by decide) (Nat.le_of_ble_eq_true rfl) ?_
  refine W.eq (g2 := F0 m 4 ls []) rfl ?_
  refine lv_aload_n hx hb dX1_init_4 rfl (lv_at hl 0 rfl) ?_
  refine lv_bipush (v := nI 96) hx hb dX1_init_5 (by decide) ?_
  refine cw_newa (E := E) (atype := .long) (ty := .long) (a0 := (96, .inr (.inl (fun _ => 0)))) hx hb (hts _ wdA_long) rfl hK hP hD hS hA 2 rfl rfl (fun _ => rfl) (by decide) (by decide) (by decide) (by decide) (by decide) dX1_init_7 (fun q_38 H hP hD hS => ?_)
  have hP : va_P E.1 vwCl [(h0, ob 1 [.null, .null, .null, .null, .null, .null, .null, .null, .null, .null, .null, .int 0, .int 0, .int 0, .int 0, .int 0, .int 0]), (q_38, aJ E 96 (fun _ => 0))] H := hP
  have hD : va_D A [(h0, ob 1 [.null, .null, .null, .null, .null, .null, .null, .null, .null, .null, .null, .int 0, .int 0, .int 0, .int 0, .int 0, .int 0]), (q_38, aJ E 96 (fun _ => 0))] := hD
  refine W.widen (k := 1) (n := 96) (by decide) (by decide) ?_
  refine va_putF (D := E.1) (ci := 1) (v := .ref q_38) (ty := .array .long) (C := RX1) (T := TX1) (N := 17) hx hb hts iX1 tyX1 tyX1_ok nmX1 hown hK hP hD hS 0 rfl rfl 2 (by decide) (hts _ wdF_RX1_11) (fun _ h9 => h9) rfl hin rfl (by decide +kernel) rfl rfl (Nat.le_of_ble_eq_true rfl) dX1_init_9 (fun H locs hP hD hS => ?_)
  have hP : va_P E.1 vwCl [(h0, ob 1 [.null, .null, .ref q_38, .null, .null, .null, .null, .null, .null, .null, .null, .int 0, .int 0, .int 0, .int 0, .int 0, .int 0]), (q_38, aJ E 96 (fun _ => 0))] H := hP
  have hD : va_D A [(h0, ob 1 [.null, .null, .ref q_38, .null, .null, .null, .null, .null, .null, .null, .null, .int 0, .int 0, .int 0, .int 0, .int 0, .int 0]), (q_38, aJ E 96 (fun _ => 0))] := hD
  refine lv_aload_n hx hb dX1_init_12 rfl (lv_at hl 0 rfl) ?_
  refine lv_iconst (v := nI 4) hx hb dX1_init_13 (by decide) ?_
  refine cw_newa (E := E) (atype := .long) (ty := .long) (a0 := (4, .inr (.inl (fun _ => 0)))) hx hb (hts _ wdA_long) rfl hK hP hD hS hA 2 rfl rfl (fun _ => rfl) (by decide) (by decide) (by decide) (by decide) (by decide) dX1_init_14 (fun q_39 H hP hD hS => ?_)
  have hP : va_P E.1 vwCl [(h0, ob 1 [.null, .null, .ref q_38, .null, .null, .null, .null, .null, .null, .null, .null, .int 0, .int 0, .int 0, .int 0, .int 0, .int 0]), (q_38, aJ E 96 (fun _ => 0)), (q_39, aJ E 4 (fun _ => 0))] H := hP
  have hD : va_D A [(h0, ob 1 [.null, .null, .ref q_38, .null, .null, .null, .null, .null, .null, .null, .null, .int 0, .int 0, .int 0, .int 0, .int 0, .int 0]), (q_38, aJ E 96 (fun _ => 0)), (q_39, aJ E 4 (fun _ => 0))] := hD
  refine W.widen (k := 2) (n := 100) (by decide) (by decide) ?_
  refine va_putF (D := E.1) (ci := 1) (v := .ref q_39) (ty := .array .long) (C := RX1) (T := TX1) (N := 17) hx hb hts iX1 tyX1 tyX1_ok nmX1 hown hK hP hD hS 0 rfl rfl 3 (by decide) (hts _ wdF_RX1_15) (fun _ h9 => h9) rfl hin rfl (by decide +kernel) rfl rfl (Nat.le_of_ble_eq_true rfl) dX1_init_16 (fun H locs hP hD hS => ?_)
  have hP : va_P E.1 vwCl [(h0, ob 1 [.null, .null, .ref q_38, .ref q_39, .null, .null, .null, .null, .null, .null, .null, .int 0, .int 0, .int 0, .int 0, .int 0, .int 0]), (q_38, aJ E 96 (fun _ => 0)), (q_39, aJ E 4 (fun _ => 0))] H := hP
  have hD : va_D A [(h0, ob 1 [.null, .null, .ref q_38, .ref q_39, .null, .null, .null, .null, .null, .null, .null, .int 0, .int 0, .int 0, .int 0, .int 0, .int 0]), (q_38, aJ E 96 (fun _ => 0)), (q_39, aJ E 4 (fun _ => 0))] := hD
  refine lv_aload_n hx hb dX1_init_19 rfl (lv_at hl 0 rfl) ?_
  refine lv_iconst (v := nI 4) hx hb dX1_init_20 (by decide) ?_
  refine cw_newa (E := E) (atype := .int) (ty := .int) (a0 := (4, .inl (fun _ => 0))) hx hb (hts _ wdA_int) rfl hK hP hD hS hA 1 rfl rfl (fun _ => rfl) (by decide) (by decide) (by decide) (by decide) (by decide) dX1_init_21 (fun q_40 H hP hD hS => ?_)
  have hP : va_P E.1 vwCl [(h0, ob 1 [.null, .null, .ref q_38, .ref q_39, .null, .null, .null, .null, .null, .null, .null, .int 0, .int 0, .int 0, .int 0, .int 0, .int 0]), (q_38, aJ E 96 (fun _ => 0)), (q_39, aJ E 4 (fun _ => 0)), (q_40, aI E 4 (fun _ => 0))] H := hP
  have hD : va_D A [(h0, ob 1 [.null, .null, .ref q_38, .ref q_39, .null, .null, .null, .null, .null, .null, .null, .int 0, .int 0, .int 0, .int 0, .int 0, .int 0]), (q_38, aJ E 96 (fun _ => 0)), (q_39, aJ E 4 (fun _ => 0)), (q_40, aI E 4 (fun _ => 0))] := hD
  refine W.widen (k := 3) (n := 104) (by decide) (by decide) ?_
  refine va_putF (D := E.1) (ci := 1) (v := .ref q_40) (ty := .array .int) (C := RX1) (T := TX1) (N := 17) hx hb hts iX1 tyX1 tyX1_ok nmX1 hown hK hP hD hS 0 rfl rfl 4 (by decide) (hts _ wdF_RX1_18) (fun _ h9 => h9) rfl hin rfl (by decide +kernel) rfl rfl (Nat.le_of_ble_eq_true rfl) dX1_init_23 (fun H locs hP hD hS => ?_)
  have hP : va_P E.1 vwCl [(h0, ob 1 [.null, .null, .ref q_38, .ref q_39, .ref q_40, .null, .null, .null, .null, .null, .null, .int 0, .int 0, .int 0, .int 0, .int 0, .int 0]), (q_38, aJ E 96 (fun _ => 0)), (q_39, aJ E 4 (fun _ => 0)), (q_40, aI E 4 (fun _ => 0))] H := hP
  have hD : va_D A [(h0, ob 1 [.null, .null, .ref q_38, .ref q_39, .ref q_40, .null, .null, .null, .null, .null, .null, .int 0, .int 0, .int 0, .int 0, .int 0, .int 0]), (q_38, aJ E 96 (fun _ => 0)), (q_39, aJ E 4 (fun _ => 0)), (q_40, aI E 4 (fun _ => 0))] := hD
  refine lv_aload_n hx hb dX1_init_26 rfl (lv_at hl 0 rfl) ?_
  refine lv_bipush (v := nI 64) hx hb dX1_init_27 (by decide) ?_
  refine cw_newa (E := E) (atype := .int) (ty := .int) (a0 := (64, .inl (fun _ => 0))) hx hb (hts _ wdA_int) rfl hK hP hD hS hA 1 rfl rfl (fun _ => rfl) (by decide) (by decide) (by decide) (by decide) (by decide) dX1_init_29 (fun q_41 H hP hD hS => ?_)
  have hP : va_P E.1 vwCl [(h0, ob 1 [.null, .null, .ref q_38, .ref q_39, .ref q_40, .null, .null, .null, .null, .null, .null, .int 0, .int 0, .int 0, .int 0, .int 0, .int 0]), (q_38, aJ E 96 (fun _ => 0)), (q_39, aJ E 4 (fun _ => 0)), (q_40, aI E 4 (fun _ => 0)), (q_41, aI E 64 (fun _ => 0))] H := hP
  have hD : va_D A [(h0, ob 1 [.null, .null, .ref q_38, .ref q_39, .ref q_40, .null, .null, .null, .null, .null, .null, .int 0, .int 0, .int 0, .int 0, .int 0, .int 0]), (q_38, aJ E 96 (fun _ => 0)), (q_39, aJ E 4 (fun _ => 0)), (q_40, aI E 4 (fun _ => 0)), (q_41, aI E 64 (fun _ => 0))] := hD
  refine W.widen (k := 4) (n := 168) (by decide) (by decide) ?_
  refine va_putF (D := E.1) (ci := 1) (v := .ref q_41) (ty := .array .int) (C := RX1) (T := TX1) (N := 17) hx hb hts iX1 tyX1 tyX1_ok nmX1 hown hK hP hD hS 0 rfl rfl 5 (by decide) (hts _ wdF_RX1_22) (fun _ h9 => h9) rfl hin rfl (by decide +kernel) rfl rfl (Nat.le_of_ble_eq_true rfl) dX1_init_31 (fun H locs hP hD hS => ?_)
  have hP : va_P E.1 vwCl [(h0, ob 1 [.null, .null, .ref q_38, .ref q_39, .ref q_40, .ref q_41, .null, .null, .null, .null, .null, .int 0, .int 0, .int 0, .int 0, .int 0, .int 0]), (q_38, aJ E 96 (fun _ => 0)), (q_39, aJ E 4 (fun _ => 0)), (q_40, aI E 4 (fun _ => 0)), (q_41, aI E 64 (fun _ => 0))] H := hP
  have hD : va_D A [(h0, ob 1 [.null, .null, .ref q_38, .ref q_39, .ref q_40, .ref q_41, .null, .null, .null, .null, .null, .int 0, .int 0, .int 0, .int 0, .int 0, .int 0]), (q_38, aJ E 96 (fun _ => 0)), (q_39, aJ E 4 (fun _ => 0)), (q_40, aI E 4 (fun _ => 0)), (q_41, aI E 64 (fun _ => 0))] := hD
  refine lv_aload_n hx hb dX1_init_34 rfl (lv_at hl 0 rfl) ?_
  refine lv_bipush (v := nI 64) hx hb dX1_init_35 (by decide) ?_
  refine cw_newa (E := E) (atype := .int) (ty := .int) (a0 := (64, .inl (fun _ => 0))) hx hb (hts _ wdA_int) rfl hK hP hD hS hA 1 rfl rfl (fun _ => rfl) (by decide) (by decide) (by decide) (by decide) (by decide) dX1_init_37 (fun q_42 H hP hD hS => ?_)
  have hP : va_P E.1 vwCl [(h0, ob 1 [.null, .null, .ref q_38, .ref q_39, .ref q_40, .ref q_41, .null, .null, .null, .null, .null, .int 0, .int 0, .int 0, .int 0, .int 0, .int 0]), (q_38, aJ E 96 (fun _ => 0)), (q_39, aJ E 4 (fun _ => 0)), (q_40, aI E 4 (fun _ => 0)), (q_41, aI E 64 (fun _ => 0)), (q_42, aI E 64 (fun _ => 0))] H := hP
  have hD : va_D A [(h0, ob 1 [.null, .null, .ref q_38, .ref q_39, .ref q_40, .ref q_41, .null, .null, .null, .null, .null, .int 0, .int 0, .int 0, .int 0, .int 0, .int 0]), (q_38, aJ E 96 (fun _ => 0)), (q_39, aJ E 4 (fun _ => 0)), (q_40, aI E 4 (fun _ => 0)), (q_41, aI E 64 (fun _ => 0)), (q_42, aI E 64 (fun _ => 0))] := hD
  refine W.widen (k := 5) (n := 232) (by decide) (by decide) ?_
  refine va_putF (D := E.1) (ci := 1) (v := .ref q_42) (ty := .array .int) (C := RX1) (T := TX1) (N := 17) hx hb hts iX1 tyX1 tyX1_ok nmX1 hown hK hP hD hS 0 rfl rfl 6 (by decide) (hts _ wdF_RX1_25) (fun _ h9 => h9) rfl hin rfl (by decide +kernel) rfl rfl (Nat.le_of_ble_eq_true rfl) dX1_init_39 (fun H locs hP hD hS => ?_)
  have hP : va_P E.1 vwCl [(h0, ob 1 [.null, .null, .ref q_38, .ref q_39, .ref q_40, .ref q_41, .ref q_42, .null, .null, .null, .null, .int 0, .int 0, .int 0, .int 0, .int 0, .int 0]), (q_38, aJ E 96 (fun _ => 0)), (q_39, aJ E 4 (fun _ => 0)), (q_40, aI E 4 (fun _ => 0)), (q_41, aI E 64 (fun _ => 0)), (q_42, aI E 64 (fun _ => 0))] H := hP
  have hD : va_D A [(h0, ob 1 [.null, .null, .ref q_38, .ref q_39, .ref q_40, .ref q_41, .ref q_42, .null, .null, .null, .null, .int 0, .int 0, .int 0, .int 0, .int 0, .int 0]), (q_38, aJ E 96 (fun _ => 0)), (q_39, aJ E 4 (fun _ => 0)), (q_40, aI E 4 (fun _ => 0)), (q_41, aI E 64 (fun _ => 0)), (q_42, aI E 64 (fun _ => 0))] := hD
  refine lv_aload_n hx hb dX1_init_42 rfl (lv_at hl 0 rfl) ?_
  refine lv_bipush (v := nI 64) hx hb dX1_init_43 (by decide) ?_
  refine cw_newa (E := E) (atype := .int) (ty := .int) (a0 := (64, .inl (fun _ => 0))) hx hb (hts _ wdA_int) rfl hK hP hD hS hA 1 rfl rfl (fun _ => rfl) (by decide) (by decide) (by decide) (by decide) (by decide) dX1_init_45 (fun q_43 H hP hD hS => ?_)
  have hP : va_P E.1 vwCl [(h0, ob 1 [.null, .null, .ref q_38, .ref q_39, .ref q_40, .ref q_41, .ref q_42, .null, .null, .null, .null, .int 0, .int 0, .int 0, .int 0, .int 0, .int 0]), (q_38, aJ E 96 (fun _ => 0)), (q_39, aJ E 4 (fun _ => 0)), (q_40, aI E 4 (fun _ => 0)), (q_41, aI E 64 (fun _ => 0)), (q_42, aI E 64 (fun _ => 0)), (q_43, aI E 64 (fun _ => 0))] H := hP
  have hD : va_D A [(h0, ob 1 [.null, .null, .ref q_38, .ref q_39, .ref q_40, .ref q_41, .ref q_42, .null, .null, .null, .null, .int 0, .int 0, .int 0, .int 0, .int 0, .int 0]), (q_38, aJ E 96 (fun _ => 0)), (q_39, aJ E 4 (fun _ => 0)), (q_40, aI E 4 (fun _ => 0)), (q_41, aI E 64 (fun _ => 0)), (q_42, aI E 64 (fun _ => 0)), (q_43, aI E 64 (fun _ => 0))] := hD
  refine W.widen (k := 6) (n := 296) (by decide) (by decide) ?_
  refine va_putF (D := E.1) (ci := 1) (v := .ref q_43) (ty := .array .int) (C := RX1) (T := TX1) (N := 17) hx hb hts iX1 tyX1 tyX1_ok nmX1 hown hK hP hD hS 0 rfl rfl 7 (by decide) (hts _ wdF_RX1_28) (fun _ h9 => h9) rfl hin rfl (by decide +kernel) rfl rfl (Nat.le_of_ble_eq_true rfl) dX1_init_47 (fun H locs hP hD hS => ?_)
  have hP : va_P E.1 vwCl [(h0, ob 1 [.null, .null, .ref q_38, .ref q_39, .ref q_40, .ref q_41, .ref q_42, .ref q_43, .null, .null, .null, .int 0, .int 0, .int 0, .int 0, .int 0, .int 0]), (q_38, aJ E 96 (fun _ => 0)), (q_39, aJ E 4 (fun _ => 0)), (q_40, aI E 4 (fun _ => 0)), (q_41, aI E 64 (fun _ => 0)), (q_42, aI E 64 (fun _ => 0)), (q_43, aI E 64 (fun _ => 0))] H := hP
  have hD : va_D A [(h0, ob 1 [.null, .null, .ref q_38, .ref q_39, .ref q_40, .ref q_41, .ref q_42, .ref q_43, .null, .null, .null, .int 0, .int 0, .int 0, .int 0, .int 0, .int 0]), (q_38, aJ E 96 (fun _ => 0)), (q_39, aJ E 4 (fun _ => 0)), (q_40, aI E 4 (fun _ => 0)), (q_41, aI E 64 (fun _ => 0)), (q_42, aI E 64 (fun _ => 0)), (q_43, aI E 64 (fun _ => 0))] := hD
  refine lv_aload_n hx hb dX1_init_50 rfl (lv_at hl 0 rfl) ?_
  refine lv_bipush (v := nI 64) hx hb dX1_init_51 (by decide) ?_
  refine cw_newa (E := E) (atype := .int) (ty := .int) (a0 := (64, .inl (fun _ => 0))) hx hb (hts _ wdA_int) rfl hK hP hD hS hA 1 rfl rfl (fun _ => rfl) (by decide) (by decide) (by decide) (by decide) (by decide) dX1_init_53 (fun q_44 H hP hD hS => ?_)
  have hP : va_P E.1 vwCl [(h0, ob 1 [.null, .null, .ref q_38, .ref q_39, .ref q_40, .ref q_41, .ref q_42, .ref q_43, .null, .null, .null, .int 0, .int 0, .int 0, .int 0, .int 0, .int 0]), (q_38, aJ E 96 (fun _ => 0)), (q_39, aJ E 4 (fun _ => 0)), (q_40, aI E 4 (fun _ => 0)), (q_41, aI E 64 (fun _ => 0)), (q_42, aI E 64 (fun _ => 0)), (q_43, aI E 64 (fun _ => 0)), (q_44, aI E 64 (fun _ => 0))] H := hP
  have hD : va_D A [(h0, ob 1 [.null, .null, .ref q_38, .ref q_39, .ref q_40, .ref q_41, .ref q_42, .ref q_43, .null, .null, .null, .int 0, .int 0, .int 0, .int 0, .int 0, .int 0]), (q_38, aJ E 96 (fun _ => 0)), (q_39, aJ E 4 (fun _ => 0)), (q_40, aI E 4 (fun _ => 0)), (q_41, aI E 64 (fun _ => 0)), (q_42, aI E 64 (fun _ => 0)), (q_43, aI E 64 (fun _ => 0)), (q_44, aI E 64 (fun _ => 0))] := hD
  refine W.widen (k := 7) (n := 360) (by decide) (by decide) ?_
  refine va_putF (D := E.1) (ci := 1) (v := .ref q_44) (ty := .array .int) (C := RX1) (T := TX1) (N := 17) hx hb hts iX1 tyX1 tyX1_ok nmX1 hown hK hP hD hS 0 rfl rfl 8 (by decide) (hts _ wdF_RX1_31) (fun _ h9 => h9) rfl hin rfl (by decide +kernel) rfl rfl (Nat.le_of_ble_eq_true rfl) dX1_init_55 (fun H locs hP hD hS => ?_)
  have hP : va_P E.1 vwCl [(h0, ob 1 [.null, .null, .ref q_38, .ref q_39, .ref q_40, .ref q_41, .ref q_42, .ref q_43, .ref q_44, .null, .null, .int 0, .int 0, .int 0, .int 0, .int 0, .int 0]), (q_38, aJ E 96 (fun _ => 0)), (q_39, aJ E 4 (fun _ => 0)), (q_40, aI E 4 (fun _ => 0)), (q_41, aI E 64 (fun _ => 0)), (q_42, aI E 64 (fun _ => 0)), (q_43, aI E 64 (fun _ => 0)), (q_44, aI E 64 (fun _ => 0))] H := hP
  have hD : va_D A [(h0, ob 1 [.null, .null, .ref q_38, .ref q_39, .ref q_40, .ref q_41, .ref q_42, .ref q_43, .ref q_44, .null, .null, .int 0, .int 0, .int 0, .int 0, .int 0, .int 0]), (q_38, aJ E 96 (fun _ => 0)), (q_39, aJ E 4 (fun _ => 0)), (q_40, aI E 4 (fun _ => 0)), (q_41, aI E 64 (fun _ => 0)), (q_42, aI E 64 (fun _ => 0)), (q_43, aI E 64 (fun _ => 0)), (q_44, aI E 64 (fun _ => 0))] := hD
  refine lv_aload_n hx hb dX1_init_58 rfl (lv_at hl 0 rfl) ?_
  refine lv_sipush (v := nI 512) hx hb dX1_init_59 (by decide) ?_
  refine cw_newa (E := E) (atype := .int) (ty := .int) (a0 := (512, .inl (fun _ => 0))) hx hb (hts _ wdA_int) rfl hK hP hD hS hA 1 rfl rfl (fun _ => rfl) (by decide) (by decide) (by decide) (by decide) (by decide) dX1_init_62 (fun q_45 H hP hD hS => ?_)
  have hP : va_P E.1 vwCl [(h0, ob 1 [.null, .null, .ref q_38, .ref q_39, .ref q_40, .ref q_41, .ref q_42, .ref q_43, .ref q_44, .null, .null, .int 0, .int 0, .int 0, .int 0, .int 0, .int 0]), (q_38, aJ E 96 (fun _ => 0)), (q_39, aJ E 4 (fun _ => 0)), (q_40, aI E 4 (fun _ => 0)), (q_41, aI E 64 (fun _ => 0)), (q_42, aI E 64 (fun _ => 0)), (q_43, aI E 64 (fun _ => 0)), (q_44, aI E 64 (fun _ => 0)), (q_45, aI E 512 (fun _ => 0))] H := hP
  have hD : va_D A [(h0, ob 1 [.null, .null, .ref q_38, .ref q_39, .ref q_40, .ref q_41, .ref q_42, .ref q_43, .ref q_44, .null, .null, .int 0, .int 0, .int 0, .int 0, .int 0, .int 0]), (q_38, aJ E 96 (fun _ => 0)), (q_39, aJ E 4 (fun _ => 0)), (q_40, aI E 4 (fun _ => 0)), (q_41, aI E 64 (fun _ => 0)), (q_42, aI E 64 (fun _ => 0)), (q_43, aI E 64 (fun _ => 0)), (q_44, aI E 64 (fun _ => 0)), (q_45, aI E 512 (fun _ => 0))] := hD
  refine W.widen (k := 8) (n := 872) (by decide) (by decide) ?_
  refine va_putF (D := E.1) (ci := 1) (v := .ref q_45) (ty := .array .int) (C := RX1) (T := TX1) (N := 17) hx hb hts iX1 tyX1 tyX1_ok nmX1 hown hK hP hD hS 0 rfl rfl 9 (by decide) (hts _ wdF_RX1_34) (fun _ h9 => h9) rfl hin rfl (by decide +kernel) rfl rfl (Nat.le_of_ble_eq_true rfl) dX1_init_64 (fun H locs hP hD hS => ?_)
  have hP : va_P E.1 vwCl [(h0, ob 1 [.null, .null, .ref q_38, .ref q_39, .ref q_40, .ref q_41, .ref q_42, .ref q_43, .ref q_44, .ref q_45, .null, .int 0, .int 0, .int 0, .int 0, .int 0, .int 0]), (q_38, aJ E 96 (fun _ => 0)), (q_39, aJ E 4 (fun _ => 0)), (q_40, aI E 4 (fun _ => 0)), (q_41, aI E 64 (fun _ => 0)), (q_42, aI E 64 (fun _ => 0)), (q_43, aI E 64 (fun _ => 0)), (q_44, aI E 64 (fun _ => 0)), (q_45, aI E 512 (fun _ => 0))] H := hP
  have hD : va_D A [(h0, ob 1 [.null, .null, .ref q_38, .ref q_39, .ref q_40, .ref q_41, .ref q_42, .ref q_43, .ref q_44, .ref q_45, .null, .int 0, .int 0, .int 0, .int 0, .int 0, .int 0]), (q_38, aJ E 96 (fun _ => 0)), (q_39, aJ E 4 (fun _ => 0)), (q_40, aI E 4 (fun _ => 0)), (q_41, aI E 64 (fun _ => 0)), (q_42, aI E 64 (fun _ => 0)), (q_43, aI E 64 (fun _ => 0)), (q_44, aI E 64 (fun _ => 0)), (q_45, aI E 512 (fun _ => 0))] := hD
  refine lv_aload_n hx hb dX1_init_67 rfl (lv_at hl 0 rfl) ?_
  refine lv_sipush (v := nI 4096) hx hb dX1_init_68 (by decide) ?_
  refine cw_newa (E := E) (atype := .int) (ty := .int) (a0 := (4096, .inl (fun _ => 0))) hx hb (hts _ wdA_int) rfl hK hP hD hS hA 1 rfl rfl (fun _ => rfl) (by decide) (by decide) (by decide) (by decide) (by decide) dX1_init_71 (fun q_46 H hP hD hS => ?_)
  have hP : va_P E.1 vwCl [(h0, ob 1 [.null, .null, .ref q_38, .ref q_39, .ref q_40, .ref q_41, .ref q_42, .ref q_43, .ref q_44, .ref q_45, .null, .int 0, .int 0, .int 0, .int 0, .int 0, .int 0]), (q_38, aJ E 96 (fun _ => 0)), (q_39, aJ E 4 (fun _ => 0)), (q_40, aI E 4 (fun _ => 0)), (q_41, aI E 64 (fun _ => 0)), (q_42, aI E 64 (fun _ => 0)), (q_43, aI E 64 (fun _ => 0)), (q_44, aI E 64 (fun _ => 0)), (q_45, aI E 512 (fun _ => 0)), (q_46, aI E 4096 (fun _ => 0))] H := hP
  have hD : va_D A [(h0, ob 1 [.null, .null, .ref q_38, .ref q_39, .ref q_40, .ref q_41, .ref q_42, .ref q_43, .ref q_44, .ref q_45, .null, .int 0, .int 0, .int 0, .int 0, .int 0, .int 0]), (q_38, aJ E 96 (fun _ => 0)), (q_39, aJ E 4 (fun _ => 0)), (q_40, aI E 4 (fun _ => 0)), (q_41, aI E 64 (fun _ => 0)), (q_42, aI E 64 (fun _ => 0)), (q_43, aI E 64 (fun _ => 0)), (q_44, aI E 64 (fun _ => 0)), (q_45, aI E 512 (fun _ => 0)), (q_46, aI E 4096 (fun _ => 0))] := hD
  refine W.widen (k := 9) (n := 4968) (by decide) (by decide) ?_
  refine va_putF (D := E.1) (ci := 1) (v := .ref q_46) (ty := .array .int) (C := RX1) (T := TX1) (N := 17) hx hb hts iX1 tyX1 tyX1_ok nmX1 hown hK hP hD hS 0 rfl rfl 10 (by decide) (hts _ wdF_RX1_37) (fun _ h9 => h9) rfl hin rfl (by decide +kernel) rfl rfl (Nat.le_of_ble_eq_true rfl) dX1_init_73 (fun H locs hP hD hS => ?_)
  have hP : va_P E.1 vwCl [(h0, ob 1 [.null, .null, .ref q_38, .ref q_39, .ref q_40, .ref q_41, .ref q_42, .ref q_43, .ref q_44, .ref q_45, .ref q_46, .int 0, .int 0, .int 0, .int 0, .int 0, .int 0]), (q_38, aJ E 96 (fun _ => 0)), (q_39, aJ E 4 (fun _ => 0)), (q_40, aI E 4 (fun _ => 0)), (q_41, aI E 64 (fun _ => 0)), (q_42, aI E 64 (fun _ => 0)), (q_43, aI E 64 (fun _ => 0)), (q_44, aI E 64 (fun _ => 0)), (q_45, aI E 512 (fun _ => 0)), (q_46, aI E 4096 (fun _ => 0))] H := hP
  have hD : va_D A [(h0, ob 1 [.null, .null, .ref q_38, .ref q_39, .ref q_40, .ref q_41, .ref q_42, .ref q_43, .ref q_44, .ref q_45, .ref q_46, .int 0, .int 0, .int 0, .int 0, .int 0, .int 0]), (q_38, aJ E 96 (fun _ => 0)), (q_39, aJ E 4 (fun _ => 0)), (q_40, aI E 4 (fun _ => 0)), (q_41, aI E 64 (fun _ => 0)), (q_42, aI E 64 (fun _ => 0)), (q_43, aI E 64 (fun _ => 0)), (q_44, aI E 64 (fun _ => 0)), (q_45, aI E 512 (fun _ => 0)), (q_46, aI E 4096 (fun _ => 0))] := hD
  refine lv_aload_n hx hb dX1_init_76 rfl (lv_at hl 0 rfl) ?_
  refine lv_aload_n hx hb dX1_init_77 rfl (lv_at hl 1 rfl) ?_
  refine va_putF (D := E.1) (ci := 1) (v := .ref a1) (ty := .object "CallerHall$Book") (C := RX1) (T := TX1) (N := 17) hx hb hts iX1 tyX1 tyX1_ok nmX1 hown hK hP hD hS 0 rfl rfl 0 (by decide) (hts _ wdF_RX1_40) (fun _ h9 => h9) rfl hin rfl (by decide +kernel) rfl rfl (Nat.le_of_ble_eq_true rfl) dX1_init_78 (fun H locs hP hD hS => ?_)
  have hP : va_P E.1 vwCl [(h0, ob 1 [.ref a1, .null, .ref q_38, .ref q_39, .ref q_40, .ref q_41, .ref q_42, .ref q_43, .ref q_44, .ref q_45, .ref q_46, .int 0, .int 0, .int 0, .int 0, .int 0, .int 0]), (q_38, aJ E 96 (fun _ => 0)), (q_39, aJ E 4 (fun _ => 0)), (q_40, aI E 4 (fun _ => 0)), (q_41, aI E 64 (fun _ => 0)), (q_42, aI E 64 (fun _ => 0)), (q_43, aI E 64 (fun _ => 0)), (q_44, aI E 64 (fun _ => 0)), (q_45, aI E 512 (fun _ => 0)), (q_46, aI E 4096 (fun _ => 0))] H := hP
  have hD : va_D A [(h0, ob 1 [.ref a1, .null, .ref q_38, .ref q_39, .ref q_40, .ref q_41, .ref q_42, .ref q_43, .ref q_44, .ref q_45, .ref q_46, .int 0, .int 0, .int 0, .int 0, .int 0, .int 0]), (q_38, aJ E 96 (fun _ => 0)), (q_39, aJ E 4 (fun _ => 0)), (q_40, aI E 4 (fun _ => 0)), (q_41, aI E 64 (fun _ => 0)), (q_42, aI E 64 (fun _ => 0)), (q_43, aI E 64 (fun _ => 0)), (q_44, aI E 64 (fun _ => 0)), (q_45, aI E 512 (fun _ => 0)), (q_46, aI E 4096 (fun _ => 0))] := hD
  refine lv_aload_n hx hb dX1_init_81 rfl (lv_at hl 0 rfl) ?_
  refine va_new (D := E.1) (cl := vwCl) (ci := 2) (fs := [.null, .null, .null, .null, .int 0, .long 0, .null, .null, .null, .int 0]) (C := RX2) (T := TX2) (N := 10) hx hb hts iX2 tyX2 tyX2_ok hown (hts _ wdC_RX1_44) (hts _ wdI_RX2) (hts _ wdZ_RX2) hK hP hD hS hA rfl zX2 (by decide) (by decide) dX1_init_82 (fun q_47 H hP hD hS => ?_)
  have hP : va_P E.1 vwCl [(h0, ob 1 [.ref a1, .null, .ref q_38, .ref q_39, .ref q_40, .ref q_41, .ref q_42, .ref q_43, .ref q_44, .ref q_45, .ref q_46, .int 0, .int 0, .int 0, .int 0, .int 0, .int 0]), (q_38, aJ E 96 (fun _ => 0)), (q_39, aJ E 4 (fun _ => 0)), (q_40, aI E 4 (fun _ => 0)), (q_41, aI E 64 (fun _ => 0)), (q_42, aI E 64 (fun _ => 0)), (q_43, aI E 64 (fun _ => 0)), (q_44, aI E 64 (fun _ => 0)), (q_45, aI E 512 (fun _ => 0)), (q_46, aI E 4096 (fun _ => 0)), (q_47, ob 2 [.null, .null, .null, .null, .int 0, .long 0, .null, .null, .null, .int 0])] H := hP
  have hD : va_D A [(h0, ob 1 [.ref a1, .null, .ref q_38, .ref q_39, .ref q_40, .ref q_41, .ref q_42, .ref q_43, .ref q_44, .ref q_45, .ref q_46, .int 0, .int 0, .int 0, .int 0, .int 0, .int 0]), (q_38, aJ E 96 (fun _ => 0)), (q_39, aJ E 4 (fun _ => 0)), (q_40, aI E 4 (fun _ => 0)), (q_41, aI E 64 (fun _ => 0)), (q_42, aI E 64 (fun _ => 0)), (q_43, aI E 64 (fun _ => 0)), (q_44, aI E 64 (fun _ => 0)), (q_45, aI E 512 (fun _ => 0)), (q_46, aI E 4096 (fun _ => 0)), (q_47, ob 2 [.null, .null, .null, .null, .int 0, .long 0, .null, .null, .null, .int 0])] := hD
  refine W.widen (k := 10) (n := 4978) (by decide) (by decide) ?_
  refine lv_dup hx hb dX1_init_85 rfl ?_
  refine lv_aload_n hx hb dX1_init_86 rfl (lv_at hl 1 rfl) ?_
  refine cV_go (wr := [(h0, ob 1 [.ref a1, .null, .ref q_38, .ref q_39, .ref q_40, .ref q_41, .ref q_42, .ref q_43, .ref q_44, .ref q_45, .ref q_46, .int 0, .int 0, .int 0, .int 0, .int 0, .int 0]), (q_38, aJ E 96 (fun _ => 0)), (q_39, aJ E 4 (fun _ => 0)), (q_40, aI E 4 (fun _ => 0)), (q_41, aI E 64 (fun _ => 0)), (q_42, aI E 64 (fun _ => 0)), (q_43, aI E 64 (fun _ => 0)), (q_44, aI E 64 (fun _ => 0)), (q_45, aI E 512 (fun _ => 0)), (q_46, aI E 4096 (fun _ => 0))]) (cM_runI (As := [.ref a1]) (rest := [.ref q_47, .ref h0]) F (c_X2_init l E q_47 a1) yy_X2_init wdN_X2_init rfl wdM_RX1_46 hP hD hS hK hZ hA [10] rfl rfl rfl hl.1 rfl (Nat.le_of_ble_eq_true rfl) dX1_init_87 ⟨by decide, by decide⟩ ⟨by decide, by decide⟩) hP hD hS hA [10] [0, 1, 2, 3, 4, 5, 6, 7, 8, 9] rfl rfl rfl (by decide) (fun u_49 H locs hw_48 hP hD hS => ?_)
  obtain ⟨q_33_51, q_34_52, q_35_53, q_36_54, q_37_55⟩ := u_49
  try dsimp only at hw_48
  have hP : va_P E.1 vwCl [(h0, ob 1 [.ref a1, .null, .ref q_38, .ref q_39, .ref q_40, .ref q_41, .ref q_42, .ref q_43, .ref q_44, .ref q_45, .ref q_46, .int 0, .int 0, .int 0, .int 0, .int 0, .int 0]), (q_38, aJ E 96 (fun _ => 0)), (q_39, aJ E 4 (fun _ => 0)), (q_40, aI E 4 (fun _ => 0)), (q_41, aI E 64 (fun _ => 0)), (q_42, aI E 64 (fun _ => 0)), (q_43, aI E 64 (fun _ => 0)), (q_44, aI E 64 (fun _ => 0)), (q_45, aI E 512 (fun _ => 0)), (q_46, aI E 4096 (fun _ => 0)), (q_47, ob 2 [.ref a1, .ref q_33_51, .ref q_34_52, .null, .int 0, .long 0, .ref q_35_53, .ref q_36_54, .ref q_37_55, .int 0]), (q_33_51, aB E 2560 (fun _ => 0)), (q_34_52, aB E 40 (fun _ => 0)), (q_35_53, aI E 65 (fun _ => 0)), (q_36_54, aI E 65 (fun _ => 0)), (q_37_55, aJ E 65 (fun _ => 0))] H := hP
  have hD : va_D A [(h0, ob 1 [.ref a1, .null, .ref q_38, .ref q_39, .ref q_40, .ref q_41, .ref q_42, .ref q_43, .ref q_44, .ref q_45, .ref q_46, .int 0, .int 0, .int 0, .int 0, .int 0, .int 0]), (q_38, aJ E 96 (fun _ => 0)), (q_39, aJ E 4 (fun _ => 0)), (q_40, aI E 4 (fun _ => 0)), (q_41, aI E 64 (fun _ => 0)), (q_42, aI E 64 (fun _ => 0)), (q_43, aI E 64 (fun _ => 0)), (q_44, aI E 64 (fun _ => 0)), (q_45, aI E 512 (fun _ => 0)), (q_46, aI E 4096 (fun _ => 0)), (q_47, ob 2 [.ref a1, .ref q_33_51, .ref q_34_52, .null, .int 0, .long 0, .ref q_35_53, .ref q_36_54, .ref q_37_55, .int 0]), (q_33_51, aB E 2560 (fun _ => 0)), (q_34_52, aB E 40 (fun _ => 0)), (q_35_53, aI E 65 (fun _ => 0)), (q_36_54, aI E 65 (fun _ => 0)), (q_37_55, aJ E 65 (fun _ => 0))] := hD
  refine W.widen (k := 15) (n := 7773) (by decide) (by decide) ?_
  refine va_putF (D := E.1) (ci := 1) (v := .ref q_47) (ty := .object "CallerHall$Copies") (C := RX1) (T := TX1) (N := 17) hx hb hts iX1 tyX1 tyX1_ok nmX1 hown hK hP hD hS 0 rfl rfl 1 (by decide) (hts _ wdF_RX1_49) (fun _ h9 => h9) rfl hin rfl (by decide +kernel) rfl rfl (Nat.le_of_ble_eq_true rfl) dX1_init_90 (fun H locs hP hD hS => ?_)
  have hP : va_P E.1 vwCl [(h0, ob 1 [.ref a1, .ref q_47, .ref q_38, .ref q_39, .ref q_40, .ref q_41, .ref q_42, .ref q_43, .ref q_44, .ref q_45, .ref q_46, .int 0, .int 0, .int 0, .int 0, .int 0, .int 0]), (q_38, aJ E 96 (fun _ => 0)), (q_39, aJ E 4 (fun _ => 0)), (q_40, aI E 4 (fun _ => 0)), (q_41, aI E 64 (fun _ => 0)), (q_42, aI E 64 (fun _ => 0)), (q_43, aI E 64 (fun _ => 0)), (q_44, aI E 64 (fun _ => 0)), (q_45, aI E 512 (fun _ => 0)), (q_46, aI E 4096 (fun _ => 0)), (q_47, ob 2 [.ref a1, .ref q_33_51, .ref q_34_52, .null, .int 0, .long 0, .ref q_35_53, .ref q_36_54, .ref q_37_55, .int 0]), (q_33_51, aB E 2560 (fun _ => 0)), (q_34_52, aB E 40 (fun _ => 0)), (q_35_53, aI E 65 (fun _ => 0)), (q_36_54, aI E 65 (fun _ => 0)), (q_37_55, aJ E 65 (fun _ => 0))] H := hP
  have hD : va_D A [(h0, ob 1 [.ref a1, .ref q_47, .ref q_38, .ref q_39, .ref q_40, .ref q_41, .ref q_42, .ref q_43, .ref q_44, .ref q_45, .ref q_46, .int 0, .int 0, .int 0, .int 0, .int 0, .int 0]), (q_38, aJ E 96 (fun _ => 0)), (q_39, aJ E 4 (fun _ => 0)), (q_40, aI E 4 (fun _ => 0)), (q_41, aI E 64 (fun _ => 0)), (q_42, aI E 64 (fun _ => 0)), (q_43, aI E 64 (fun _ => 0)), (q_44, aI E 64 (fun _ => 0)), (q_45, aI E 512 (fun _ => 0)), (q_46, aI E 4096 (fun _ => 0)), (q_47, ob 2 [.ref a1, .ref q_33_51, .ref q_34_52, .null, .int 0, .long 0, .ref q_35_53, .ref q_36_54, .ref q_37_55, .int 0]), (q_33_51, aB E 2560 (fun _ => 0)), (q_34_52, aB E 40 (fun _ => 0)), (q_35_53, aI E 65 (fun _ => 0)), (q_36_54, aI E 65 (fun _ => 0)), (q_37_55, aJ E 65 (fun _ => 0))] := hD
  exact cV_ret F hP hD hS hK (q_38, q_39, q_40, q_41, q_42, q_43, q_44, q_45, q_46, q_47, q_33_51, q_34_52, q_35_53, q_36_54, q_37_55) trivial [0, 1, 2, 3, 4, 5, 6, 7, 8, 9, 10, 11, 12, 13, 14, 15] rfl rfl dX1_init_93 (by decide) (by decide)
theorem yy_X1_init : cY yX1_init cX1_init 2 none 1 := ⟨wdK_X1_init, wdZ_RX1, by decide +kernel⟩
theorem dX3_init_0 : decode cX3_init 0 = .ok (.aload_n 0, 1) := by decide +kernel
theorem dX3_init_1 : decode cX3_init 1 = .ok (.invokespecial 3, 3) := by decide +kernel
theorem dX3_init_4 : decode cX3_init 4 = .ok (.aload_n 0, 1) := by decide +kernel
theorem dX3_init_5 : decode cX3_init 5 = .ok (.bipush 64, 2) := by decide +kernel
theorem dX3_init_7 : decode cX3_init 7 = .ok (.newarray .int, 2) := by decide +kernel
theorem dX3_init_9 : decode cX3_init 9 = .ok (.putfield 9, 3) := by decide +kernel
theorem dX3_init_12 : decode cX3_init 12 = .ok (.aload_n 0, 1) := by decide +kernel
theorem dX3_init_13 : decode cX3_init 13 = .ok (.bipush 64, 2) := by decide +kernel
theorem dX3_init_15 : decode cX3_init 15 = .ok (.newarray .int, 2) := by decide +kernel
theorem dX3_init_17 : decode cX3_init 17 = .ok (.putfield 15, 3) := by decide +kernel
theorem dX3_init_20 : decode cX3_init 20 = .ok (.aload_n 0, 1) := by decide +kernel
theorem dX3_init_21 : decode cX3_init 21 = .ok (.bipush 64, 2) := by decide +kernel
theorem dX3_init_23 : decode cX3_init 23 = .ok (.newarray .int, 2) := by decide +kernel
theorem dX3_init_25 : decode cX3_init 25 = .ok (.putfield 18, 3) := by decide +kernel
theorem dX3_init_28 : decode cX3_init 28 = .ok (.aload_n 0, 1) := by decide +kernel
theorem dX3_init_29 : decode cX3_init 29 = .ok (.bipush 64, 2) := by decide +kernel
theorem dX3_init_31 : decode cX3_init 31 = .ok (.newarray .int, 2) := by decide +kernel
theorem dX3_init_33 : decode cX3_init 33 = .ok (.putfield 21, 3) := by decide +kernel
theorem dX3_init_36 : decode cX3_init 36 = .ok (.aload_n 0, 1) := by decide +kernel
theorem dX3_init_37 : decode cX3_init 37 = .ok (.bipush 64, 2) := by decide +kernel
theorem dX3_init_39 : decode cX3_init 39 = .ok (.newarray .int, 2) := by decide +kernel
theorem dX3_init_41 : decode cX3_init 41 = .ok (.putfield 24, 3) := by decide +kernel
theorem dX3_init_44 : decode cX3_init 44 = .ok (.aload_n 0, 1) := by decide +kernel
theorem dX3_init_45 : decode cX3_init 45 = .ok (.bipush 64, 2) := by decide +kernel
theorem dX3_init_47 : decode cX3_init 47 = .ok (.newarray .int, 2) := by decide +kernel
theorem dX3_init_49 : decode cX3_init 49 = .ok (.putfield 27, 3) := by decide +kernel
theorem dX3_init_52 : decode cX3_init 52 = .ok (.aload_n 0, 1) := by decide +kernel
theorem dX3_init_53 : decode cX3_init 53 = .ok (.iconst 4, 1) := by decide +kernel
theorem dX3_init_54 : decode cX3_init 54 = .ok (.newarray .long, 2) := by decide +kernel
theorem dX3_init_56 : decode cX3_init 56 = .ok (.putfield 30, 3) := by decide +kernel
theorem dX3_init_59 : decode cX3_init 59 = .ok (.aload_n 0, 1) := by decide +kernel
theorem dX3_init_60 : decode cX3_init 60 = .ok (.sipush 4096, 3) := by decide +kernel
theorem dX3_init_63 : decode cX3_init 63 = .ok (.newarray .byte, 2) := by decide +kernel
theorem dX3_init_65 : decode cX3_init 65 = .ok (.putfield 34, 3) := by decide +kernel
theorem dX3_init_68 : decode cX3_init 68 = .ok (.return_, 1) := by decide +kernel
abbrev rm_c_X3_init : Room := { frames := 1, cells := 8, slots := 4484, locals := 20 }
set_option maxHeartbeats 4000000 in
set_option maxRecDepth 100000 in
theorem c_X3_init (l : Launch) (E : cE) (h0 : Nat) : cM l E yX3_init cX3_init 1 none rm_c_X3_init [.ref h0] [(h0, ob 3 [.null, .null, .null, .null, .null, .null, .null, .null, .int 0, .int 0])] (qV E (fun (u : Nat × Nat × Nat × Nat × Nat × Nat × Nat × Nat) => match u with | (q_56, q_57, q_58, q_59, q_60, q_61, q_62, q_63) => True) (fun (u : Nat × Nat × Nat × Nat × Nat × Nat × Nat × Nat) => match u with | (q_56, q_57, q_58, q_59, q_60, q_61, q_62, q_63) => [(h0, ob 3 [.ref q_56, .ref q_57, .ref q_58, .ref q_59, .ref q_60, .ref q_61, .ref q_62, .ref q_63, .int 0, .int 0]), (q_56, aI E 64 (fun _ => 0)), (q_57, aI E 64 (fun _ => 0)), (q_58, aI E 64 (fun _ => 0)), (q_59, aI E 64 (fun _ => 0)), (q_60, aI E 64 (fun _ => 0)), (q_61, aI E 64 (fun _ => 0)), (q_62, aJ E 4 (fun _ => 0)), (q_63, aB E 4096 (fun _ => 0))])) := by
  refine cM_of (by decide) (Nat.le_of_ble_eq_true rfl) ?_
  intro p e s m below meth c ls A F hA hS hP hD hK hZ hl
  obtain ⟨hx, hb, hr, hml, hown, hts, hlk, hin⟩ := id F
  have hown : s.vm.findClass RX3 = some m.cls := hown
  have hin : meth.name = "<init>" := hin
  have hl : lv_has ls 1 [(0, .ref h0)] := hl
  refine lv_aload_n hx hb dX3_init_0 rfl (lv_at hl 0 rfl) ?_
  refine W.objInit hx hb hown (hts _ wdM_RX3_3) (hts _ wd_oi) (hts _ wd_oc) rfl (by rw [hml]; exact hl.1) rfl dX3_init_1 (by decide) (Nat.le_of_ble_eq_true rfl) ?_
  refine W.eq (g2 := F0 m 4 ls []) rfl ?_
  refine lv_aload_n hx hb dX3_init_4 rfl (lv_at hl 0 rfl) ?_
  refine lv_bipush (v := nI 64) hx hb dX3_init_5 (by decide) ?_
  refine cw_newa (E := E) (atype := .int) (ty := .int) (a0 := (64, .inl (fun _ => 0))) hx hb (hts _ wdA_int) rfl hK hP hD hS hA 1 rfl rfl (fun _ => rfl) (by decide) (by decide) (by decide) (by decide) (by decide) dX3_init_7 (fun q_56 H hP hD hS => ?_)
  have hP : va_P E.1 vwCl [(h0, ob 3 [.null, .null, .null, .null, .null, .null, .null, .null, .int 0, .int 0]), (q_56, aI E 64 (fun _ => 0))] H := hP
  have hD : va_D A [(h0, ob 3 [.null, .null, .null, .null, .null, .null, .null, .null, .int 0, .int 0]), (q_56, aI E 64 (fun _ => 0))] := hD
  refine W.widen (k := 1) (n := 64) (by decide) (by decide) ?_
  refine va_putF (D := E.1) (ci := 3) (v := .ref q_56) (ty := .array .int) (C := RX3) (T := TX3) (N := 10) hx hb hts iX3 tyX3 tyX3_ok nmX3 hown hK hP hD hS 0 rfl rfl 0 (by decide) (hts _ wdF_RX3_9) (fun _ h9 => h9) rfl hin rfl (by decide +kernel) rfl rfl (Nat.le_of_ble_eq_true rfl) dX3_init_9 (fun H locs hP hD hS => ?_)
  have hP : va_P E.1 vwCl [(h0, ob 3 [.ref q_56, .null, .null, .null, .null, .null, .null, .null, .int 0, .int 0]), (q_56, aI E 64 (fun _ => 0))] H := hP
  have hD : va_D A [(h0, ob 3 [.ref q_56, .null, .null, .null, .null, .null, .null, .null, .int 0, .int 0]), (q_56, aI E 64 (fun _ => 0))] := hD
  refine lv_aload_n hx hb dX3_init_12 rfl (lv_at hl 0 rfl) ?_
  refine lv_bipush (v := nI 64) hx hb dX3_init_13 (by decide) ?_
  refine cw_newa (E := E) (atype := .int) (ty := .int) (a0 := (64, .inl (fun _ => 0))) hx hb (hts _ wdA_int) rfl hK hP hD hS hA 1 rfl rfl (fun _ => rfl) (by decide) (by decide) (by decide) (by decide) (by decide) dX3_init_15 (fun q_57 H hP hD hS => ?_)
  have hP : va_P E.1 vwCl [(h0, ob 3 [.ref q_56, .null, .null, .null, .null, .null, .null, .null, .int 0, .int 0]), (q_56, aI E 64 (fun _ => 0)), (q_57, aI E 64 (fun _ => 0))] H := hP
  have hD : va_D A [(h0, ob 3 [.ref q_56, .null, .null, .null, .null, .null, .null, .null, .int 0, .int 0]), (q_56, aI E 64 (fun _ => 0)), (q_57, aI E 64 (fun _ => 0))] := hD
  refine W.widen (k := 2) (n := 128) (by decide) (by decide) ?_
  refine va_putF (D := E.1) (ci := 3) (v := .ref q_57) (ty := .array .int) (C := RX3) (T := TX3) (N := 10) hx hb hts iX3 tyX3 tyX3_ok nmX3 hown hK hP hD hS 0 rfl rfl 1 (by decide) (hts _ wdF_RX3_15) (fun _ h9 => h9) rfl hin rfl (by decide +kernel) rfl rfl (Nat.le_of_ble_eq_true rfl) dX3_init_17 (fun H locs hP hD hS => ?_)
  have hP : va_P E.1 vwCl [(h0, ob 3 [.ref q_56, .ref q_57, .null, .null, .null, .null, .null, .null, .int 0, .int 0]), (q_56, aI E 64 (fun _ => 0)), (q_57, aI E 64 (fun _ => 0))] H := hP
  have hD : va_D A [(h0, ob 3 [.ref q_56, .ref q_57, .null, .null, .null, .null, .null, .null, .int 0, .int 0]), (q_56, aI E 64 (fun _ => 0)), (q_57, aI E 64 (fun _ => 0))] := hD
  refine lv_aload_n hx hb dX3_init_20 rfl (lv_at hl 0 rfl) ?_
  refine lv_bipush (v := nI 64) hx hb dX3_init_21 (by decide) ?_
  refine cw_newa (E := E) (atype := .int) (ty := .int) (a0 := (64, .inl (fun _ => 0))) hx hb (hts _ wdA_int) rfl hK hP hD hS hA 1 rfl rfl (fun _ => rfl) (by decide) (by decide) (by decide) (by decide) (by decide) dX3_init_23 (fun q_58 H hP hD hS => ?_)
  have hP : va_P E.1 vwCl [(h0, ob 3 [.ref q_56, .ref q_57, .null, .null, .null, .null, .null, .null, .int 0, .int 0]), (q_56, aI E 64 (fun _ => 0)), (q_57, aI E 64 (fun _ => 0)), (q_58, aI E 64 (fun _ => 0))] H := hP
  have hD : va_D A [(h0, ob 3 [.ref q_56, .ref q_57, .null, .null, .null, .null, .null, .null, .int 0, .int 0]), (q_56, aI E 64 (fun _ => 0)), (q_57, aI E 64 (fun _ => 0)), (q_58, aI E 64 (fun _ => 0))] := hD
  refine W.widen (k := 3) (n := 192) (by decide) (by decide) ?_
  refine va_putF (D := E.1) (ci := 3) (v := .ref q_58) (ty := .array .int) (C := RX3) (T := TX3) (N := 10) hx hb hts iX3 tyX3 tyX3_ok nmX3 hown hK hP hD hS 0 rfl rfl 2 (by decide) (hts _ wdF_RX3_18) (fun _ h9 => h9) rfl hin rfl (by decide +kernel) rfl rfl (Nat.le_of_ble_eq_true rfl) dX3_init_25 (fun H locs hP hD hS => ?_)
  have hP : va_P E.1 vwCl [(h0, ob 3 [.ref q_56, .ref q_57, .ref q_58, .null, .null, .null, .null, .null, .int 0, .int 0]), (q_56, aI E 64 (fun _ => 0)), (q_57, aI E 64 (fun _ => 0)), (q_58, aI E 64 (fun _ => 0))] H := hP
  have hD : va_D A [(h0, ob 3 [.ref q_56, .ref q_57, .ref q_58, .null, .null, .null, .null, .null, .int 0, .int 0]), (q_56, aI E 64 (fun _ => 0)), (q_57, aI E 64 (fun _ => 0)), (q_58, aI E 64 (fun _ => 0))] := hD
  refine lv_aload_n hx hb dX3_init_28 rfl (lv_at hl 0 rfl) ?_
  refine lv_bipush (v := nI 64) hx hb dX3_init_29 (by decide) ?_
  refine cw_newa (E := E) (atype := .int) (ty := .int) (a0 := (64, .inl (fun _ => 0))) hx hb (hts _ wdA_int) rfl hK hP hD hS hA 1 rfl rfl (fun _ => rfl) (by decide) (by decide) (by decide) (by decide) (by decide) dX3_init_31 (fun q_59 H hP hD hS => ?_)
  have hP : va_P E.1 vwCl [(h0, ob 3 [.ref q_56, .ref q_57, .ref q_58, .null, .null, .null, .null, .null, .int 0, .int 0]), (q_56, aI E 64 (fun _ => 0)), (q_57, aI E 64 (fun _ => 0)), (q_58, aI E 64 (fun _ => 0)), (q_59, aI E 64 (fun _ => 0))] H := hP
  have hD : va_D A [(h0, ob 3 [.ref q_56, .ref q_57, .ref q_58, .null, .null, .null, .null, .null, .int 0, .int 0]), (q_56, aI E 64 (fun _ => 0)), (q_57, aI E 64 (fun _ => 0)), (q_58, aI E 64 (fun _ => 0)), (q_59, aI E 64 (fun _ => 0))] := hD
  refine W.widen (k := 4) (n := 256) (by decide) (by decide) ?_
  refine va_putF (D := E.1) (ci := 3) (v := .ref q_59) (ty := .array .int) (C := RX3) (T := TX3) (N := 10) hx hb hts iX3 tyX3 tyX3_ok nmX3 hown hK hP hD hS 0 rfl rfl 3 (by decide) (hts _ wdF_RX3_21) (fun _ h9 => h9) rfl hin rfl (by decide +kernel) rfl rfl (Nat.le_of_ble_eq_true rfl) dX3_init_33 (fun H locs hP hD hS => ?_)
  have hP : va_P E.1 vwCl [(h0, ob 3 [.ref q_56, .ref q_57, .ref q_58, .ref q_59, .null, .null, .null, .null, .int 0, .int 0]), (q_56, aI E 64 (fun _ => 0)), (q_57, aI E 64 (fun _ => 0)), (q_58, aI E 64 (fun _ => 0)), (q_59, aI E 64 (fun _ => 0))] H := hP
  have hD : va_D A [(h0, ob 3 [.ref q_56, .ref q_57, .ref q_58, .ref q_59, .null, .null, .null, .null, .int 0, .int 0]), (q_56, aI E 64 (fun _ => 0)), (q_57, aI E 64 (fun _ => 0)), (q_58, aI E 64 (fun _ => 0)), (q_59, aI E 64 (fun _ => 0))] := hD
  refine lv_aload_n hx hb dX3_init_36 rfl (lv_at hl 0 rfl) ?_
  refine lv_bipush (v := nI 64) hx hb dX3_init_37 (by decide) ?_
  refine cw_newa (E := E) (atype := .int) (ty := .int) (a0 := (64, .inl (fun _ => 0))) hx hb (hts _ wdA_int) rfl hK hP hD hS hA 1 rfl rfl (fun _ => rfl) (by decide) (by decide) (by decide) (by decide) (by decide) dX3_init_39 (fun q_60 H hP hD hS => ?_)
  have hP : va_P E.1 vwCl [(h0, ob 3 [.ref q_56, .ref q_57, .ref q_58, .ref q_59, .null, .null, .null, .null, .int 0, .int 0]), (q_56, aI E 64 (fun _ => 0)), (q_57, aI E 64 (fun _ => 0)), (q_58, aI E 64 (fun _ => 0)), (q_59, aI E 64 (fun _ => 0)), (q_60, aI E 64 (fun _ => 0))] H := hP
  have hD : va_D A [(h0, ob 3 [.ref q_56, .ref q_57, .ref q_58, .ref q_59, .null, .null, .null, .null, .int 0, .int 0]), (q_56, aI E 64 (fun _ => 0)), (q_57, aI E 64 (fun _ => 0)), (q_58, aI E 64 (fun _ => 0)), (q_59, aI E 64 (fun _ => 0)), (q_60, aI E 64 (fun _ => 0))] := hD
  refine W.widen (k := 5) (n := 320) (by decide) (by decide) ?_
  refine va_putF (D := E.1) (ci := 3) (v := .ref q_60) (ty := .array .int) (C := RX3) (T := TX3) (N := 10) hx hb hts iX3 tyX3 tyX3_ok nmX3 hown hK hP hD hS 0 rfl rfl 4 (by decide) (hts _ wdF_RX3_24) (fun _ h9 => h9) rfl hin rfl (by decide +kernel) rfl rfl (Nat.le_of_ble_eq_true rfl) dX3_init_41 (fun H locs hP hD hS => ?_)
  have hP : va_P E.1 vwCl [(h0, ob 3 [.ref q_56, .ref q_57, .ref q_58, .ref q_59, .ref q_60, .null, .null, .null, .int 0, .int 0]), (q_56, aI E 64 (fun _ => 0)), (q_57, aI E 64 (fun _ => 0)), (q_58, aI E 64 (fun _ => 0)), (q_59, aI E 64 (fun _ => 0)), (q_60, aI E 64 (fun _ => 0))] H := hP
  have hD : va_D A [(h0, ob 3 [.ref q_56, .ref q_57, .ref q_58, .ref q_59, .ref q_60, .null, .null, .null, .int 0, .int 0]), (q_56, aI E 64 (fun _ => 0)), (q_57, aI E 64 (fun _ => 0)), (q_58, aI E 64 (fun _ => 0)), (q_59, aI E 64 (fun _ => 0)), (q_60, aI E 64 (fun _ => 0))] := hD
  refine lv_aload_n hx hb dX3_init_44 rfl (lv_at hl 0 rfl) ?_
  refine lv_bipush (v := nI 64) hx hb dX3_init_45 (by decide) ?_
  refine cw_newa (E := E) (atype := .int) (ty := .int) (a0 := (64, .inl (fun _ => 0))) hx hb (hts _ wdA_int) rfl hK hP hD hS hA 1 rfl rfl (fun _ => rfl) (by decide) (by decide) (by decide) (by decide) (by decide) dX3_init_47 (fun q_61 H hP hD hS => ?_)
  have hP : va_P E.1 vwCl [(h0, ob 3 [.ref q_56, .ref q_57, .ref q_58, .ref q_59, .ref q_60, .null, .null, .null, .int 0, .int 0]), (q_56, aI E 64 (fun _ => 0)), (q_57, aI E 64 (fun _ => 0)), (q_58, aI E 64 (fun _ => 0)), (q_59, aI E 64 (fun _ => 0)), (q_60, aI E 64 (fun _ => 0)), (q_61, aI E 64 (fun _ => 0))] H := hP
  have hD : va_D A [(h0, ob 3 [.ref q_56, .ref q_57, .ref q_58, .ref q_59, .ref q_60, .null, .null, .null, .int 0, .int 0]), (q_56, aI E 64 (fun _ => 0)), (q_57, aI E 64 (fun _ => 0)), (q_58, aI E 64 (fun _ => 0)), (q_59, aI E 64 (fun _ => 0)), (q_60, aI E 64 (fun _ => 0)), (q_61, aI E 64 (fun _ => 0))] := hD
  refine W.widen (k := 6) (n := 384) (by decide) (by decide) ?_
  refine va_putF (D := E.1) (ci := 3) (v := .ref q_61) (ty := .array .int) (C := RX3) (T := TX3) (N := 10) hx hb hts iX3 tyX3 tyX3_ok nmX3 hown hK hP hD hS 0 rfl rfl 5 (by decide) (hts _ wdF_RX3_27) (fun _ h9 => h9) rfl hin rfl (by decide +kernel) rfl rfl (Nat.le_of_ble_eq_true rfl) dX3_init_49 (fun H locs hP hD hS => ?_)
  have hP : va_P E.1 vwCl [(h0, ob 3 [.ref q_56, .ref q_57, .ref q_58, .ref q_59, .ref q_60, .ref q_61, .null, .null, .int 0, .int 0]), (q_56, aI E 64 (fun _ => 0)), (q_57, aI E 64 (fun _ => 0)), (q_58, aI E 64 (fun _ => 0)), (q_59, aI E 64 (fun _ => 0)), (q_60, aI E 64 (fun _ => 0)), (q_61, aI E 64 (fun _ => 0))] H := hP
  have hD : va_D A [(h0, ob 3 [.ref q_56, .ref q_57, .ref q_58, .ref q_59, .ref q_60, .ref q_61, .null, .null, .int 0, .int 0]), (q_56, aI E 64 (fun _ => 0)), (q_57, aI E 64 (fun _ => 0)), (q_58, aI E 64 (fun _ => 0)), (q_59, aI E 64 (fun _ => 0)), (q_60, aI E 64 (fun _ => 0)), (q_61, aI E 64 (fun _ => 0))] := hD
  refine lv_aload_n hx hb dX3_init_52 rfl (lv_at hl 0 rfl) ?_
  refine lv_iconst (v := nI 4) hx hb dX3_init_53 (by decide) ?_
  refine cw_newa (E := E) (atype := .long) (ty := .long) (a0 := (4, .inr (.inl (fun _ => 0)))) hx hb (hts _ wdA_long) rfl hK hP hD hS hA 2 rfl rfl (fun _ => rfl) (by decide) (by decide) (by decide) (by decide) (by decide) dX3_init_54 (fun q_62 H hP hD hS => ?_)
  have hP : va_P E.1 vwCl [(h0, ob 3 [.ref q_56, .ref q_57, .ref q_58, .ref q_59, .ref q_60, .ref q_61, .null, .null, .int 0, .int 0]), (q_56, aI E 64 (fun _ => 0)), (q_57, aI E 64 (fun _ => 0)), (q_58, aI E 64 (fun _ => 0)), (q_59, aI E 64 (fun _ => 0)), (q_60, aI E 64 (fun _ => 0)), (q_61, aI E 64 (fun _ => 0)), (q_62, aJ E 4 (fun _ => 0))] H := hP
  have hD : va_D A [(h0, ob 3 [.ref q_56, .ref q_57, .ref q_58, .ref q_59, .ref q_60, .ref q_61, .null, .null, .int 0, .int 0]), (q_56, aI E 64 (fun _ => 0)), (q_57, aI E 64 (fun _ => 0)), (q_58, aI E 64 (fun _ => 0)), (q_59, aI E 64 (fun _ => 0)), (q_60, aI E 64 (fun _ => 0)), (q_61, aI E 64 (fun _ => 0)), (q_62, aJ E 4 (fun _ => 0))] := hD
  refine W.widen (k := 7) (n := 388) (by decide) (by decide) ?_
  refine va_putF (D := E.1) (ci := 3) (v := .ref q_62) (ty := .array .long) (C := RX3) (T := TX3) (N := 10) hx hb hts iX3 tyX3 tyX3_ok nmX3 hown hK hP hD hS 0 rfl rfl 6 (by decide) (hts _ wdF_RX3_30) (fun _ h9 => h9) rfl hin rfl (by decide +kernel) rfl rfl (Nat.le_of_ble_eq_true rfl) dX3_init_56 (fun H locs hP hD hS => ?_)
  have hP : va_P E.1 vwCl [(h0, ob 3 [.ref q_56, .ref q_57, .ref q_58, .ref q_59, .ref q_60, .ref q_61, .ref q_62, .null, .int 0, .int 0]), (q_56, aI E 64 (fun _ => 0)), (q_57, aI E 64 (fun _ => 0)), (q_58, aI E 64 (fun _ => 0)), (q_59, aI E 64 (fun _ => 0)), (q_60, aI E 64 (fun _ => 0)), (q_61, aI E 64 (fun _ => 0)), (q_62, aJ E 4 (fun _ => 0))] H := hP
  have hD : va_D A [(h0, ob 3 [.ref q_56, .ref q_57, .ref q_58, .ref q_59, .ref q_60, .ref q_61, .ref q_62, .null, .int 0, .int 0]), (q_56, aI E 64 (fun _ => 0)), (q_57, aI E 64 (fun _ => 0)), (q_58, aI E 64 (fun _ => 0)), (q_59, aI E 64 (fun _ => 0)), (q_60, aI E 64 (fun _ => 0)), (q_61, aI E 64 (fun _ => 0)), (q_62, aJ E 4 (fun _ => 0))] := hD
  refine lv_aload_n hx hb dX3_init_59 rfl (lv_at hl 0 rfl) ?_
  refine lv_sipush (v := nI 4096) hx hb dX3_init_60 (by decide) ?_
  refine cw_newa (E := E) (atype := .byte) (ty := .byte) (a0 := (4096, .inl (fun _ => 0))) hx hb (hts _ wdA_byte) rfl hK hP hD hS hA 0 rfl rfl (fun _ => rfl) (by decide) (by decide) (by decide) (by decide) (by decide) dX3_init_63 (fun q_63 H hP hD hS => ?_)
  have hP : va_P E.1 vwCl [(h0, ob 3 [.ref q_56, .ref q_57, .ref q_58, .ref q_59, .ref q_60, .ref q_61, .ref q_62, .null, .int 0, .int 0]), (q_56, aI E 64 (fun _ => 0)), (q_57, aI E 64 (fun _ => 0)), (q_58, aI E 64 (fun _ => 0)), (q_59, aI E 64 (fun _ => 0)), (q_60, aI E 64 (fun _ => 0)), (q_61, aI E 64 (fun _ => 0)), (q_62, aJ E 4 (fun _ => 0)), (q_63, aB E 4096 (fun _ => 0))] H := hP
  have hD : va_D A [(h0, ob 3 [.ref q_56, .ref q_57, .ref q_58, .ref q_59, .ref q_60, .ref q_61, .ref q_62, .null, .int 0, .int 0]), (q_56, aI E 64 (fun _ => 0)), (q_57, aI E 64 (fun _ => 0)), (q_58, aI E 64 (fun _ => 0)), (q_59, aI E 64 (fun _ => 0)), (q_60, aI E 64 (fun _ => 0)), (q_61, aI E 64 (fun _ => 0)), (q_62, aJ E 4 (fun _ => 0)), (q_63, aB E 4096 (fun _ => 0))] := hD
  refine W.widen (k := 8) (n := 4484) (by decide) (by decide) ?_
  refine va_putF (D := E.1) (ci := 3) (v := .ref q_63) (ty := .array .byte) (C := RX3) (T := TX3) (N := 10) hx hb hts iX3 tyX3 tyX3_ok nmX3 hown hK hP hD hS 0 rfl rfl 7 (by decide) (hts _ wdF_RX3_34) (fun _ h9 => h9) rfl hin rfl (by decide +kernel) rfl rfl (Nat.le_of_ble_eq_true rfl) dX3_init_65 (fun H locs hP hD hS => ?_)
  have hP : va_P E.1 vwCl [(h0, ob 3 [.ref q_56, .ref q_57, .ref q_58, .ref q_59, .ref q_60, .ref q_61, .ref q_62, .ref q_63, .int 0, .int 0]), (q_56, aI E 64 (fun _ => 0)), (q_57, aI E 64 (fun _ => 0)), (q_58, aI E 64 (fun _ => 0)), (q_59, aI E 64 (fun _ => 0)), (q_60, aI E 64 (fun _ => 0)), (q_61, aI E 64 (fun _ => 0)), (q_62, aJ E 4 (fun _ => 0)), (q_63, aB E 4096 (fun _ => 0))] H := hP
  have hD : va_D A [(h0, ob 3 [.ref q_56, .ref q_57, .ref q_58, .ref q_59, .ref q_60, .ref q_61, .ref q_62, .ref q_63, .int 0, .int 0]), (q_56, aI E 64 (fun _ => 0)), (q_57, aI E 64 (fun _ => 0)), (q_58, aI E 64 (fun _ => 0)), (q_59, aI E 64 (fun _ => 0)), (q_60, aI E 64 (fun _ => 0)), (q_61, aI E 64 (fun _ => 0)), (q_62, aJ E 4 (fun _ => 0)), (q_63, aB E 4096 (fun _ => 0))] := hD
  exact cV_ret F hP hD hS hK (q_56, q_57, q_58, q_59, q_60, q_61, q_62, q_63) trivial [0, 1, 2, 3, 4, 5, 6, 7, 8] rfl rfl dX3_init_68 (by decide) (by decide)
theorem yy_X3_init : cY yX3_init cX3_init 1 none 0 := ⟨wdK_X3_init, wdZ_RX3, by decide +kernel⟩
theorem dX8_init_0 : decode cX8_init 0 = .ok (.aload_n 0, 1) := by decide +kernel
theorem dX8_init_1 : decode cX8_init 1 = .ok (.invokespecial 3, 3) := by decide +kernel
theorem dX8_init_4 : decode cX8_init 4 = .ok (.aload_n 0, 1) := by decide +kernel
theorem dX8_init_5 : decode cX8_init 5 = .ok (.sipush 1500, 3) := by decide +kernel
theorem dX8_init_8 : decode cX8_init 8 = .ok (.newarray .long, 2) := by decide +kernel
theorem dX8_init_10 : decode cX8_init 10 = .ok (.putfield 11, 3) := by decide +kernel
theorem dX8_init_13 : decode cX8_init 13 = .ok (.aload_n 0, 1) := by decide +kernel
theorem dX8_init_14 : decode cX8_init 14 = .ok (.aload_n 1, 1) := by decide +kernel
theorem dX8_init_15 : decode cX8_init 15 = .ok (.putfield 15, 3) := by decide +kernel
theorem dX8_init_18 : decode cX8_init 18 = .ok (.aload_n 0, 1) := by decide +kernel
theorem dX8_init_19 : decode cX8_init 19 = .ok (.aload_n 2, 1) := by decide +kernel
theorem dX8_init_20 : decode cX8_init 20 = .ok (.putfield 19, 3) := by decide +kernel
theorem dX8_init_23 : decode cX8_init 23 = .ok (.return_, 1) := by decide +kernel
abbrev rm_c_X8_init : Room := { frames := 1, cells := 1, slots := 1500, locals := 20 }
set_option maxHeartbeats 4000000 in
set_option maxRecDepth 100000 in
theorem c_X8_init (l : Launch) (E : cE) (h0 : Nat) (a1 : Nat) (a2 : Nat) : cM l E yX8_init cX8_init 3 none rm_c_X8_init [.ref h0, .ref a1, .ref a2] [(h0, ob 8 [.null, .null, .int 0, .int 0, .long 0, .null, .int 0, .int 0, .int 0, .int 0, .int 0])] (qV E (fun (q_64 : Nat) => True) (fun (q_64 : Nat) => [(h0, ob 8 [.ref a1, .ref a2, .int 0, .int 0, .long 0, .ref q_64, .int 0, .int 0, .int 0, .int 0, .int 0]), (q_64, aJ E 1500 (fun _ => 0))])) := by
  refine cM_of (by decide) (Nat.le_of_ble_eq_true rfl) ?_
  intro p e s m below meth c ls A F hA hS hP hD hK hZ hl
  obtain ⟨hx, hb, hr, hml, hown, hts, hlk, hin⟩ := id F
  have hown : s.vm.findClass RX8 = some m.cls := hown
  have hin : meth.name = "<init>" := hin
  have hl : lv_has ls 3 [(0, .ref h0), (1, .ref a1), (2, .ref a2)] := hl
  refine lv_aload_n hx hb dX8_init_0 rfl (lv_at hl 0 rfl) ?_
  refine W.objInit hx hb hown (hts _ wdM_RX8_3) (hts _ wd_oi) (hts _ wd_oc) rfl (by rw [hml]; exact hl.1) rfl dX8_init_1 (by decide) (Nat.le_of_ble_eq_true rfl) ?_
  refine W.eq (g2 := F0 m 4 ls []) rfl ?_
  refine lv_aload_n hx hb dX8_init_4 rfl (lv_at hl 0 rfl) ?_
  refine lv_sipush (v := nI 1500) hx hb dX8_init_5 (by decide) ?_
  refine cw_newa (E := E) (atype := .long) (ty := .long) (a0 := (1500, .inr (.inl (fun _ => 0)))) hx hb (hts _ wdA_long) rfl hK hP hD hS hA 2 rfl rfl (fun _ => rfl) (by decide) (by decide) (by decide) (by decide) (by decide) dX8_init_8 (fun q_64 H hP hD hS => ?_)
  have hP : va_P E.1 vwCl [(h0, ob 8 [.null, .null, .int 0, .int 0, .long 0, .null, .int 0, .int 0, .int 0, .int 0, .int 0]), (q_64, aJ E 1500 (fun _ => 0))] H := hP
  have hD : va_D A [(h0, ob 8 [.null, .null, .int 0, .int 0, .long 0, .null, .int 0, .int 0, .int 0, .int 0, .int 0]), (q_64, aJ E 1500 (fun _ => 0))] := hD
  refine W.widen (k := 1) (n := 1500) (by decide) (by decide) ?_
  refine va_putF (D := E.1) (ci := 8) (v := .ref q_64) (ty := .array .long) (C := RX8) (T := TX8) (N := 11) hx hb hts iX8 tyX8 tyX8_ok nmX8 hown hK hP hD hS 0 rfl rfl 5 (by decide) (hts _ wdF_RX8_11) (fun _ h9 => h9) rfl hin rfl (by decide +kernel) rfl rfl (Nat.le_of_ble_eq_true rfl) dX8_init_10 (fun H locs hP hD hS => ?_)
  have hP : va_P E.1 vwCl [(h0, ob 8 [.null, .null, .int 0, .int 0, .long 0, .ref q_64, .int 0, .int 0, .int 0, .int 0, .int 0]), (q_64, aJ E 1500 (fun _ => 0))] H := hP
  have hD : va_D A [(h0, ob 8 [.null, .null, .int 0, .int 0, .long 0, .ref q_64, .int 0, .int 0, .int 0, .int 0, .int 0]), (q_64, aJ E 1500 (fun _ => 0))] := hD
  refine lv_aload_n hx hb dX8_init_13 rfl (lv_at hl 0 rfl) ?_
  refine lv_aload_n hx hb dX8_init_14 rfl (lv_at hl 1 rfl) ?_
  refine va_putF (D := E.1) (ci := 8) (v := .ref a1) (ty := .object "CallerHall$Book") (C := RX8) (T := TX8) (N := 11) hx hb hts iX8 tyX8 tyX8_ok nmX8 hown hK hP hD hS 0 rfl rfl 0 (by decide) (hts _ wdF_RX8_15) (fun _ h9 => h9) rfl hin rfl (by decide +kernel) rfl rfl (Nat.le_of_ble_eq_true rfl) dX8_init_15 (fun H locs hP hD hS => ?_)
  have hP : va_P E.1 vwCl [(h0, ob 8 [.ref a1, .null, .int 0, .int 0, .long 0, .ref q_64, .int 0, .int 0, .int 0, .int 0, .int 0]), (q_64, aJ E 1500 (fun _ => 0))] H := hP
  have hD : va_D A [(h0, ob 8 [.ref a1, .null, .int 0, .int 0, .long 0, .ref q_64, .int 0, .int 0, .int 0, .int 0, .int 0]), (q_64, aJ E 1500 (fun _ => 0))] := hD
  refine lv_aload_n hx hb dX8_init_18 rfl (lv_at hl 0 rfl) ?_
  refine lv_aload_n hx hb dX8_init_19 rfl (lv_at hl 2 rfl) ?_
  refine va_putF (D := E.1) (ci := 8) (v := .ref a2) (ty := .object "CallerHall$Caller") (C := RX8) (T := TX8) (N := 11) hx hb hts iX8 tyX8 tyX8_ok nmX8 hown hK hP hD hS 0 rfl rfl 1 (by decide) (hts _ wdF_RX8_19) (fun _ h9 => h9) rfl hin rfl (by decide +kernel) rfl rfl (Nat.le_of_ble_eq_true rfl) dX8_init_20 (fun H locs hP hD hS => ?_)
  have hP : va_P E.1 vwCl [(h0, ob 8 [.ref a1, .ref a2, .int 0, .int 0, .long 0, .ref q_64, .int 0, .int 0, .int 0, .int 0, .int 0]), (q_64, aJ E 1500 (fun _ => 0))] H := hP
  have hD : va_D A [(h0, ob 8 [.ref a1, .ref a2, .int 0, .int 0, .long 0, .ref q_64, .int 0, .int 0, .int 0, .int 0, .int 0]), (q_64, aJ E 1500 (fun _ => 0))] := hD
  exact cV_ret F hP hD hS hK (q_64) trivial [0, 1] rfl rfl dX8_init_23 (by decide) (by decide)
theorem yy_X8_init : cY yX8_init cX8_init 3 none 2 := ⟨wdK_X8_init, wdZ_RX8, by decide +kernel⟩
theorem dX4_init_0 : decode cX4_init 0 = .ok (.aload_n 0, 1) := by decide +kernel
theorem dX4_init_1 : decode cX4_init 1 = .ok (.invokespecial 1, 3) := by decide +kernel
theorem dX4_init_4 : decode cX4_init 4 = .ok (.aload_n 0, 1) := by decide +kernel
theorem dX4_init_5 : decode cX4_init 5 = .ok (.sipush 201, 3) := by decide +kernel
theorem dX4_init_8 : decode cX4_init 8 = .ok (.anewarray 9, 3) := by decide +kernel
theorem dX4_init_11 : decode cX4_init 11 = .ok (.putfield 11, 3) := by decide +kernel
theorem dX4_init_14 : decode cX4_init 14 = .ok (.return_, 1) := by decide +kernel
abbrev rm_c_X4_init : Room := { frames := 1, cells := 1, slots := 201, locals := 20 }
set_option maxHeartbeats 4000000 in
set_option maxRecDepth 100000 in
theorem c_X4_init (l : Launch) (E : cE) (h0 : Nat) : cM l E yX4_init cX4_init 1 none rm_c_X4_init [.ref h0] [(h0, ob 4 [.null, .int 0, .int 0])] (qV E (fun (q_65 : Nat) => True) (fun (q_65 : Nat) => [(h0, ob 4 [.ref q_65, .int 0, .int 0]), (q_65, aQ E 201 (fun _ => none))])) := by
  refine cM_of (by decide) (Nat.le_of_ble_eq_true rfl) ?_
  intro p e s m below meth c ls A F hA hS hP hD hK hZ hl
  obtain ⟨hx, hb, hr, hml, hown, hts, hlk, hin⟩ := id F
  have hown : s.vm.findClass RX4 = some m.cls := hown
  have hin : meth.name = "<init>" := hin
  have hl : lv_has ls 1 [(0, .ref h0)] := hl
  obtain ⟨_, _, hAO, hN_RX11_18, hN_RX11_43, hN_RX11_65, hN_RX10_83, hN_RX4_22, hStr⟩ := id hZ
  refine lv_aload_n hx hb dX4_init_0 rfl (lv_at hl 0 rfl) ?_
  refine W.objInit hx hb hown (hts _ wdM_RX4_1) (hts _ wd_oi) (hts _ wd_oc) rfl (by rw [hml]; exact hl.1) rfl dX4_init_1 (by decide) (Nat.le_of_ble_eq_true rfl) ?_
  refine W.eq (g2 := F0 m 4 ls []) rfl ?_
  refine lv_aload_n hx hb dX4_init_4 rfl (lv_at hl 0 rfl) ?_
  refine lv_sipush (v := nI 201) hx hb dX4_init_5 (by decide) ?_
  refine cw_newq (E := E) (N' := 201) hx hb hown (hts _ wdC_RX4_9) hAO hK hP hD hS hA (by decide) (by decide) (by decide) (by decide) (by decide) dX4_init_8 (fun q_65 H hP hD hS => ?_)
  have hP : va_P E.1 vwCl [(h0, ob 4 [.null, .int 0, .int 0]), (q_65, aQ E 201 (fun _ => none))] H := hP
  have hD : va_D A [(h0, ob 4 [.null, .int 0, .int 0]), (q_65, aQ E 201 (fun _ => none))] := hD
  refine W.widen (k := 1) (n := 201) (by decide) (by decide) ?_
  refine va_putF (D := E.1) (ci := 4) (v := .ref q_65) (ty := .array (.object "CallerHall$Moment")) (C := RX4) (T := TX4) (N := 3) hx hb hts iX4 tyX4 tyX4_ok nmX4 hown hK hP hD hS 0 rfl rfl 0 (by decide) (hts _ wdF_RX4_11) (fun _ h9 => h9) rfl hin rfl (by decide +kernel) rfl rfl (Nat.le_of_ble_eq_true rfl) dX4_init_11 (fun H locs hP hD hS => ?_)
  have hP : va_P E.1 vwCl [(h0, ob 4 [.ref q_65, .int 0, .int 0]), (q_65, aQ E 201 (fun _ => none))] H := hP
  have hD : va_D A [(h0, ob 4 [.ref q_65, .int 0, .int 0]), (q_65, aQ E 201 (fun _ => none))] := hD
  exact cV_ret F hP hD hS hK (q_65) trivial [0, 1] rfl rfl dX4_init_14 (by decide) (by decide)
theorem yy_X4_init : cY yX4_init cX4_init 1 none 0 := ⟨wdK_X4_init, wdZ_RX4, by decide +kernel⟩
theorem dX9_init_0 : decode cX9_init 0 = .ok (.aload_n 0, 1) := by decide +kernel
theorem dX9_init_1 : decode cX9_init 1 = .ok (.invokespecial 5, 3) := by decide +kernel
theorem dX9_init_4 : decode cX9_init 4 = .ok (.aload_n 0, 1) := by decide +kernel
theorem dX9_init_5 : decode cX9_init 5 = .ok (.sipush 6000, 3) := by decide +kernel
theorem dX9_init_8 : decode cX9_init 8 = .ok (.newarray .long, 2) := by decide +kernel
theorem dX9_init_10 : decode cX9_init 10 = .ok (.putfield 11, 3) := by decide +kernel
theorem dX9_init_13 : decode cX9_init 13 = .ok (.aload_n 0, 1) := by decide +kernel
theorem dX9_init_14 : decode cX9_init 14 = .ok (.sipush 4096, 3) := by decide +kernel
theorem dX9_init_17 : decode cX9_init 17 = .ok (.newarray .short, 2) := by decide +kernel
theorem dX9_init_19 : decode cX9_init 19 = .ok (.putfield 15, 3) := by decide +kernel
theorem dX9_init_22 : decode cX9_init 22 = .ok (.aload_n 0, 1) := by decide +kernel
theorem dX9_init_23 : decode cX9_init 23 = .ok (.ldc 19, 2) := by decide +kernel
theorem dX9_init_25 : decode cX9_init 25 = .ok (.newarray .short, 2) := by decide +kernel
theorem dX9_init_27 : decode cX9_init 27 = .ok (.putfield 20, 3) := by decide +kernel
theorem dX9_init_30 : decode cX9_init 30 = .ok (.aload_n 0, 1) := by decide +kernel
theorem dX9_init_31 : decode cX9_init 31 = .ok (.bipush 15, 2) := by decide +kernel
theorem dX9_init_33 : decode cX9_init 33 = .ok (.newarray .int, 2) := by decide +kernel
theorem dX9_init_35 : decode cX9_init 35 = .ok (.putfield 23, 3) := by decide +kernel
theorem dX9_init_38 : decode cX9_init 38 = .ok (.aload_n 0, 1) := by decide +kernel
theorem dX9_init_39 : decode cX9_init 39 = .ok (.sipush 2000, 3) := by decide +kernel
theorem dX9_init_42 : decode cX9_init 42 = .ok (.newarray .long, 2) := by decide +kernel
theorem dX9_init_44 : decode cX9_init 44 = .ok (.putfield 27, 3) := by decide +kernel
theorem dX9_init_47 : decode cX9_init 47 = .ok (.aload_n 0, 1) := by decide +kernel
theorem dX9_init_48 : decode cX9_init 48 = .ok (.sipush 2000, 3) := by decide +kernel
theorem dX9_init_51 : decode cX9_init 51 = .ok (.newarray .int, 2) := by decide +kernel
theorem dX9_init_53 : decode cX9_init 53 = .ok (.putfield 30, 3) := by decide +kernel
theorem dX9_init_56 : decode cX9_init 56 = .ok (.aload_n 0, 1) := by decide +kernel
theorem dX9_init_57 : decode cX9_init 57 = .ok (.iconst 3, 1) := by decide +kernel
theorem dX9_init_58 : decode cX9_init 58 = .ok (.newarray .long, 2) := by decide +kernel
theorem dX9_init_60 : decode cX9_init 60 = .ok (.putfield 33, 3) := by decide +kernel
theorem dX9_init_63 : decode cX9_init 63 = .ok (.aload_n 0, 1) := by decide +kernel
theorem dX9_init_64 : decode cX9_init 64 = .ok (.bipush 16, 2) := by decide +kernel
theorem dX9_init_66 : decode cX9_init 66 = .ok (.newarray .int, 2) := by decide +kernel
theorem dX9_init_68 : decode cX9_init 68 = .ok (.putfield 36, 3) := by decide +kernel
theorem dX9_init_71 : decode cX9_init 71 = .ok (.aload_n 0, 1) := by decide +kernel
theorem dX9_init_72 : decode cX9_init 72 = .ok (.iconst (-1), 1) := by decide +kernel
theorem dX9_init_73 : decode cX9_init 73 = .ok (.putfield 39, 3) := by decide +kernel
theorem dX9_init_76 : decode cX9_init 76 = .ok (.aload_n 0, 1) := by decide +kernel
theorem dX9_init_77 : decode cX9_init 77 = .ok (.bipush 12, 2) := by decide +kernel
theorem dX9_init_79 : decode cX9_init 79 = .ok (.newarray .int, 2) := by decide +kernel
theorem dX9_init_81 : decode cX9_init 81 = .ok (.putfield 43, 3) := by decide +kernel
theorem dX9_init_84 : decode cX9_init 84 = .ok (.aload_n 0, 1) := by decide +kernel
theorem dX9_init_85 : decode cX9_init 85 = .ok (.aload_n 1, 1) := by decide +kernel
theorem dX9_init_86 : decode cX9_init 86 = .ok (.putfield 46, 3) := by decide +kernel
theorem dX9_init_89 : decode cX9_init 89 = .ok (.aload_n 0, 1) := by decide +kernel
theorem dX9_init_90 : decode cX9_init 90 = .ok (.aload_n 2, 1) := by decide +kernel
theorem dX9_init_91 : decode cX9_init 91 = .ok (.putfield 50, 3) := by decide +kernel
theorem dX9_init_94 : decode cX9_init 94 = .ok (.aload_n 0, 1) := by decide +kernel
theorem dX9_init_95 : decode cX9_init 95 = .ok (.aload_n 3, 1) := by decide +kernel
theorem dX9_init_96 : decode cX9_init 96 = .ok (.putfield 54, 3) := by decide +kernel
theorem dX9_init_99 : decode cX9_init 99 = .ok (.return_, 1) := by decide +kernel
abbrev rm_c_X9_init : Room := { frames := 1, cells := 9, slots := 78142, locals := 20 }
set_option maxHeartbeats 4000000 in
set_option maxRecDepth 100000 in
theorem c_X9_init (l : Launch) (E : cE) (h0 : Nat) (a1 : Nat) (a2 : Nat) (a3 : Nat) : cM l E yX9_init cX9_init 4 none rm_c_X9_init [.ref h0, .ref a1, .ref a2, .ref a3] [(h0, ob 9 [.null, .null, .null, .null, .null, .null, .null, .null, .null, .null, .null, .int 0, .int 0, .int 0, .int 0, .null, .int 0, .int 0])] (qV E (fun (u : Nat × Nat × Nat × Nat × Nat × Nat × Nat × Nat × Nat) => match u with | (q_66, q_67, q_68, q_69, q_70, q_71, q_72, q_73, q_74) => True) (fun (u : Nat × Nat × Nat × Nat × Nat × Nat × Nat × Nat × Nat) => match u with | (q_66, q_67, q_68, q_69, q_70, q_71, q_72, q_73, q_74) => [(h0, ob 9 [.ref a1, .ref a2, .ref a3, .ref q_66, .ref q_67, .ref q_68, .ref q_69, .ref q_70, .ref q_71, .ref q_72, .ref q_73, .int 0, .int 0, .int 0, .int (-1), .ref q_74, .int 0, .int 0]), (q_66, aJ E 6000 (fun _ => 0)), (q_67, aS E 4096 (fun _ => 0)), (q_68, aS E 64000 (fun _ => 0)), (q_69, aI E 15 (fun _ => 0)), (q_70, aJ E 2000 (fun _ => 0)), (q_71, aI E 2000 (fun _ => 0)), (q_72, aJ E 3 (fun _ => 0)), (q_73, aI E 16 (fun _ => 0)), (q_74, aI E 12 (fun _ => 0))])) := by
  refine cM_of (by decide) (Nat.le_of_ble_eq_true rfl) ?_
  intro p e s m below meth c ls A F hA hS hP hD hK hZ hl
  obtain ⟨hx, hb, hr, hml, hown, hts, hlk, hin⟩ := id F
  have hown : s.vm.findClass RX9 = some m.cls := hown
  have hin : meth.name = "<init>" := hin
  have hl : lv_has ls 4 [(0, .ref h0), (1, .ref a1), (2, .ref a2), (3, .ref a3)] := hl
  refine lv_aload_n hx hb dX9_init_0 rfl (lv_at hl 0 rfl) ?_
  refine W.objInit hx hb hown (hts _ wdM_RX9_5) (hts _ wd_oi) (hts _ wd_oc) rfl (by rw [hml]; exact hl.1) rfl dX9_init_1 (by decide) (Nat.le_of_ble_eq_true rfl) ?_
  refine W.eq (g2 := F0 m 4 ls []) rfl ?_
  refine lv_aload_n hx hb dX9_init_4 rfl (lv_at hl 0 rfl) ?_
  refine lv_sipush (v := nI 6000) hx hb dX9_init_5 (by decide) ?_
  refine cw_newa (E := E) (atype := .long) (ty := .long) (a0 := (6000, .inr (.inl (fun _ => 0)))) hx hb (hts _ wdA_long) rfl hK hP hD hS hA 2 rfl rfl (fun _ => rfl) (by decide) (by decide) (by decide) (by decide) (by decide) dX9_init_8 (fun q_66 H hP hD hS => ?_)
  have hP : va_P E.1 vwCl [(h0, ob 9 [.null, .null, .null, .null, .null, .null, .null, .null, .null, .null, .null, .int 0, .int 0, .int 0, .int 0, .null, .int 0, .int 0]), (q_66, aJ E 6000 (fun _ => 0))] H := hP
  have hD : va_D A [(h0, ob 9 [.null, .null, .null, .null, .null, .null, .null, .null, .null, .null, .null, .int 0, .int 0, .int 0, .int 0, .null, .int 0, .int 0]), (q_66, aJ E 6000 (fun _ => 0))] := hD
  refine W.widen (k := 1) (n := 6000) (by decide) (by decide) ?_
  refine va_putF (D := E.1) (ci := 9) (v := .ref q_66) (ty := .array .long) (C := RX9) (T := TX9) (N := 18) hx hb hts iX9 tyX9 tyX9_ok nmX9 hown hK hP hD hS 0 rfl rfl 3 (by decide) (hts _ wdF_RX9_11) (fun _ h9 => h9) rfl hin rfl (by decide +kernel) rfl rfl (Nat.le_of_ble_eq_true rfl) dX9_init_10 (fun H locs hP hD hS => ?_)
  have hP : va_P E.1 vwCl [(h0, ob 9 [.null, .null, .null, .ref q_66, .null, .null, .null, .null, .null, .null, .null, .int 0, .int 0, .int 0, .int 0, .null, .int 0, .int 0]), (q_66, aJ E 6000 (fun _ => 0))] H := hP
  have hD : va_D A [(h0, ob 9 [.null, .null, .null, .ref q_66, .null, .null, .null, .null, .null, .null, .null, .int 0, .int 0, .int 0, .int 0, .null, .int 0, .int 0]), (q_66, aJ E 6000 (fun _ => 0))] := hD
  refine lv_aload_n hx hb dX9_init_13 rfl (lv_at hl 0 rfl) ?_
  refine lv_sipush (v := nI 4096) hx hb dX9_init_14 (by decide) ?_
  refine cw_newa (E := E) (atype := .short) (ty := .short) (a0 := (4096, .inl (fun _ => 0))) hx hb (hts _ wdA_short) rfl hK hP hD hS hA 3 rfl rfl (fun _ => rfl) (by decide) (by decide) (by decide) (by decide) (by decide) dX9_init_17 (fun q_67 H hP hD hS => ?_)
  have hP : va_P E.1 vwCl [(h0, ob 9 [.null, .null, .null, .ref q_66, .null, .null, .null, .null, .null, .null, .null, .int 0, .int 0, .int 0, .int 0, .null, .int 0, .int 0]), (q_66, aJ E 6000 (fun _ => 0)), (q_67, aS E 4096 (fun _ => 0))] H := hP
  have hD : va_D A [(h0, ob 9 [.null, .null, .null, .ref q_66, .null, .null, .null, .null, .null, .null, .null, .int 0, .int 0, .int 0, .int 0, .null, .int 0, .int 0]), (q_66, aJ E 6000 (fun _ => 0)), (q_67, aS E 4096 (fun _ => 0))] := hD
  refine W.widen (k := 2) (n := 10096) (by decide) (by decide) ?_
  refine va_putF (D := E.1) (ci := 9) (v := .ref q_67) (ty := .array .short) (C := RX9) (T := TX9) (N := 18) hx hb hts iX9 tyX9 tyX9_ok nmX9 hown hK hP hD hS 0 rfl rfl 4 (by decide) (hts _ wdF_RX9_15) (fun _ h9 => h9) rfl hin rfl (by decide +kernel) rfl rfl (Nat.le_of_ble_eq_true rfl) dX9_init_19 (fun H locs hP hD hS => ?_)
  have hP : va_P E.1 vwCl [(h0, ob 9 [.null, .null, .null, .ref q_66, .ref q_67, .null, .null, .null, .null, .null, .null, .int 0, .int 0, .int 0, .int 0, .null, .int 0, .int 0]), (q_66, aJ E 6000 (fun _ => 0)), (q_67, aS E 4096 (fun _ => 0))] H := hP
  have hD : va_D A [(h0, ob 9 [.null, .null, .null, .ref q_66, .ref q_67, .null, .null, .null, .null, .null, .null, .int 0, .int 0, .int 0, .int 0, .null, .int 0, .int 0]), (q_66, aJ E 6000 (fun _ => 0)), (q_67, aS E 4096 (fun _ => 0))] := hD
  refine lv_aload_n hx hb dX9_init_22 rfl (lv_at hl 0 rfl) ?_
  refine lv_ldc hx hb hown (hts _ wdV_RX9_19) dX9_init_23 ?_
  refine cw_newa (E := E) (atype := .short) (ty := .short) (a0 := (64000, .inl (fun _ => 0))) hx hb (hts _ wdA_short) rfl hK hP hD hS hA 3 rfl rfl (fun _ => rfl) (by decide) (by decide) (by decide) (by decide) (by decide) dX9_init_25 (fun q_68 H hP hD hS => ?_)
  have hP : va_P E.1 vwCl [(h0, ob 9 [.null, .null, .null, .ref q_66, .ref q_67, .null, .null, .null, .null, .null, .null, .int 0, .int 0, .int 0, .int 0, .null, .int 0, .int 0]), (q_66, aJ E 6000 (fun _ => 0)), (q_67, aS E 4096 (fun _ => 0)), (q_68, aS E 64000 (fun _ => 0))] H := hP
  have hD : va_D A [(h0, ob 9 [.null, .null, .null, .ref q_66, .ref q_67, .null, .null, .null, .null, .null, .null, .int 0, .int 0, .int 0, .int 0, .null, .int 0, .int 0]), (q_66, aJ E 6000 (fun _ => 0)), (q_67, aS E 4096 (fun _ => 0)), (q_68, aS E 64000 (fun _ => 0))] := hD
  refine W.widen (k := 3) (n := 74096) (by decide) (by decide) ?_
  refine va_putF (D := E.1) (ci := 9) (v := .ref q_68) (ty := .array .short) (C := RX9) (T := TX9) (N := 18) hx hb hts iX9 tyX9 tyX9_ok nmX9 hown hK hP hD hS 0 rfl rfl 5 (by decide) (hts _ wdF_RX9_20) (fun _ h9 => h9) rfl hin rfl (by decide +kernel) rfl rfl (Nat.le_of_ble_eq_true rfl) dX9_init_27 (fun H locs hP hD hS => ?_)
  have hP : va_P E.1 vwCl [(h0, ob 9 [.null, .null, .null, .ref q_66, .ref q_67, .ref q_68, .null, .null, .null, .null, .null, .int 0, .int 0, .int 0, .int 0, .null, .int 0, .int 0]), (q_66, aJ E 6000 (fun _ => 0)), (q_67, aS E 4096 (fun _ => 0)), (q_68, aS E 64000 (fun _ => 0))] H := hP
  have hD : va_D A [(h0, ob 9 [.null, .null, .null, .ref q_66, .ref q_67, .ref q_68, .null, .null, .null, .null, .null, .int 0, .int 0, .int 0, .int 0, .null, .int 0, .int 0]), (q_66, aJ E 6000 (fun _ => 0)), (q_67, aS E 4096 (fun _ => 0)), (q_68, aS E 64000 (fun _ => 0))] := hD
  refine lv_aload_n hx hb dX9_init_30 rfl (lv_at hl 0 rfl) ?_
  refine lv_bipush (v := nI 15) hx hb dX9_init_31 (by decide) ?_
  refine cw_newa (E := E) (atype := .int) (ty := .int) (a0 := (15, .inl (fun _ => 0))) hx hb (hts _ wdA_int) rfl hK hP hD hS hA 1 rfl rfl (fun _ => rfl) (by decide) (by decide) (by decide) (by decide) (by decide) dX9_init_33 (fun q_69 H hP hD hS => ?_)
  have hP : va_P E.1 vwCl [(h0, ob 9 [.null, .null, .null, .ref q_66, .ref q_67, .ref q_68, .null, .null, .null, .null, .null, .int 0, .int 0, .int 0, .int 0, .null, .int 0, .int 0]), (q_66, aJ E 6000 (fun _ => 0)), (q_67, aS E 4096 (fun _ => 0)), (q_68, aS E 64000 (fun _ => 0)), (q_69, aI E 15 (fun _ => 0))] H := hP
  have hD : va_D A [(h0, ob 9 [.null, .null, .null, .ref q_66, .ref q_67, .ref q_68, .null, .null, .null, .null, .null, .int 0, .int 0, .int 0, .int 0, .null, .int 0, .int 0]), (q_66, aJ E 6000 (fun _ => 0)), (q_67, aS E 4096 (fun _ => 0)), (q_68, aS E 64000 (fun _ => 0)), (q_69, aI E 15 (fun _ => 0))] := hD
  refine W.widen (k := 4) (n := 74111) (by decide) (by decide) ?_
  refine va_putF (D := E.1) (ci := 9) (v := .ref q_69) (ty := .array .int) (C := RX9) (T := TX9) (N := 18) hx hb hts iX9 tyX9 tyX9_ok nmX9 hown hK hP hD hS 0 rfl rfl 6 (by decide) (hts _ wdF_RX9_23) (fun _ h9 => h9) rfl hin rfl (by decide +kernel) rfl rfl (Nat.le_of_ble_eq_true rfl) dX9_init_35 (fun H locs hP hD hS => ?_)
  have hP : va_P E.1 vwCl [(h0, ob 9 [.null, .null, .null, .ref q_66, .ref q_67, .ref q_68, .ref q_69, .null, .null, .null, .null, .int 0, .int 0, .int 0, .int 0, .null, .int 0, .int 0]), (q_66, aJ E 6000 (fun _ => 0)), (q_67, aS E 4096 (fun _ => 0)), (q_68, aS E 64000 (fun _ => 0)), (q_69, aI E 15 (fun _ => 0))] H := hP
  have hD : va_D A [(h0, ob 9 [.null, .null, .null, .ref q_66, .ref q_67, .ref q_68, .ref q_69, .null, .null, .null, .null, .int 0, .int 0, .int 0, .int 0, .null, .int 0, .int 0]), (q_66, aJ E 6000 (fun _ => 0)), (q_67, aS E 4096 (fun _ => 0)), (q_68, aS E 64000 (fun _ => 0)), (q_69, aI E 15 (fun _ => 0))] := hD
  refine lv_aload_n hx hb dX9_init_38 rfl (lv_at hl 0 rfl) ?_
  refine lv_sipush (v := nI 2000) hx hb dX9_init_39 (by decide) ?_
  refine cw_newa (E := E) (atype := .long) (ty := .long) (a0 := (2000, .inr (.inl (fun _ => 0)))) hx hb (hts _ wdA_long) rfl hK hP hD hS hA 2 rfl rfl (fun _ => rfl) (by decide) (by decide) (by decide) (by decide) (by decide) dX9_init_42 (fun q_70 H hP hD hS => ?_)
  have hP : va_P E.1 vwCl [(h0, ob 9 [.null, .null, .null, .ref q_66, .ref q_67, .ref q_68, .ref q_69, .null, .null, .null, .null, .int 0, .int 0, .int 0, .int 0, .null, .int 0, .int 0]), (q_66, aJ E 6000 (fun _ => 0)), (q_67, aS E 4096 (fun _ => 0)), (q_68, aS E 64000 (fun _ => 0)), (q_69, aI E 15 (fun _ => 0)), (q_70, aJ E 2000 (fun _ => 0))] H := hP
  have hD : va_D A [(h0, ob 9 [.null, .null, .null, .ref q_66, .ref q_67, .ref q_68, .ref q_69, .null, .null, .null, .null, .int 0, .int 0, .int 0, .int 0, .null, .int 0, .int 0]), (q_66, aJ E 6000 (fun _ => 0)), (q_67, aS E 4096 (fun _ => 0)), (q_68, aS E 64000 (fun _ => 0)), (q_69, aI E 15 (fun _ => 0)), (q_70, aJ E 2000 (fun _ => 0))] := hD
  refine W.widen (k := 5) (n := 76111) (by decide) (by decide) ?_
  refine va_putF (D := E.1) (ci := 9) (v := .ref q_70) (ty := .array .long) (C := RX9) (T := TX9) (N := 18) hx hb hts iX9 tyX9 tyX9_ok nmX9 hown hK hP hD hS 0 rfl rfl 7 (by decide) (hts _ wdF_RX9_27) (fun _ h9 => h9) rfl hin rfl (by decide +kernel) rfl rfl (Nat.le_of_ble_eq_true rfl) dX9_init_44 (fun H locs hP hD hS => ?_)
  have hP : va_P E.1 vwCl [(h0, ob 9 [.null, .null, .null, .ref q_66, .ref q_67, .ref q_68, .ref q_69, .ref q_70, .null, .null, .null, .int 0, .int 0, .int 0, .int 0, .null, .int 0, .int 0]), (q_66, aJ E 6000 (fun _ => 0)), (q_67, aS E 4096 (fun _ => 0)), (q_68, aS E 64000 (fun _ => 0)), (q_69, aI E 15 (fun _ => 0)), (q_70, aJ E 2000 (fun _ => 0))] H := hP
  have hD : va_D A [(h0, ob 9 [.null, .null, .null, .ref q_66, .ref q_67, .ref q_68, .ref q_69, .ref q_70, .null, .null, .null, .int 0, .int 0, .int 0, .int 0, .null, .int 0, .int 0]), (q_66, aJ E 6000 (fun _ => 0)), (q_67, aS E 4096 (fun _ => 0)), (q_68, aS E 64000 (fun _ => 0)), (q_69, aI E 15 (fun _ => 0)), (q_70, aJ E 2000 (fun _ => 0))] := hD
  refine lv_aload_n hx hb dX9_init_47 rfl (lv_at hl 0 rfl) ?_
  refine lv_sipush (v := nI 2000) hx hb dX9_init_48 (by decide) ?_
  refine cw_newa (E := E) (atype := .int) (ty := .int) (a0 := (2000, .inl (fun _ => 0))) hx hb (hts _ wdA_int) rfl hK hP hD hS hA 1 rfl rfl (fun _ => rfl) (by decide) (by decide) (by decide) (by decide) (by decide) dX9_init_51 (fun q_71 H hP hD hS => ?_)
  have hP : va_P E.1 vwCl [(h0, ob 9 [.null, .null, .null, .ref q_66, .ref q_67, .ref q_68, .ref q_69, .ref q_70, .null, .null, .null, .int 0, .int 0, .int 0, .int 0, .null, .int 0, .int 0]), (q_66, aJ E 6000 (fun _ => 0)), (q_67, aS E 4096 (fun _ => 0)), (q_68, aS E 64000 (fun _ => 0)), (q_69, aI E 15 (fun _ => 0)), (q_70, aJ E 2000 (fun _ => 0)), (q_71, aI E 2000 (fun _ => 0))] H := hP
  have hD : va_D A [(h0, ob 9 [.null, .null, .null, .ref q_66, .ref q_67, .ref q_68, .ref q_69, .ref q_70, .null, .null, .null, .int 0, .int 0, .int 0, .int 0, .null, .int 0, .int 0]), (q_66, aJ E 6000 (fun _ => 0)), (q_67, aS E 4096 (fun _ => 0)), (q_68, aS E 64000 (fun _ => 0)), (q_69, aI E 15 (fun _ => 0)), (q_70, aJ E 2000 (fun _ => 0)), (q_71, aI E 2000 (fun _ => 0))] := hD
  refine W.widen (k := 6) (n := 78111) (by decide) (by decide) ?_
  refine va_putF (D := E.1) (ci := 9) (v := .ref q_71) (ty := .array .int) (C := RX9) (T := TX9) (N := 18) hx hb hts iX9 tyX9 tyX9_ok nmX9 hown hK hP hD hS 0 rfl rfl 8 (by decide) (hts _ wdF_RX9_30) (fun _ h9 => h9) rfl hin rfl (by decide +kernel) rfl rfl (Nat.le_of_ble_eq_true rfl) dX9_init_53 (fun H locs hP hD hS => ?_)
  have hP : va_P E.1 vwCl [(h0, ob 9 [.null, .null, .null, .ref q_66, .ref q_67, .ref q_68, .ref q_69, .ref q_70, .ref q_71, .null, .null, .int 0, .int 0, .int 0, .int 0, .null, .int 0, .int 0]), (q_66, aJ E 6000 (fun _ => 0)), (q_67, aS E 4096 (fun _ => 0)), (q_68, aS E 64000 (fun _ => 0)), (q_69, aI E 15 (fun _ => 0)), (q_70, aJ E 2000 (fun _ => 0)), (q_71, aI E 2000 (fun _ => 0))] H := hP
  have hD : va_D A [(h0, ob 9 [.null, .null, .null, .ref q_66, .ref q_67, .ref q_68, .ref q_69, .ref q_70, .ref q_71, .null, .null, .int 0, .int 0, .int 0, .int 0, .null, .int 0, .int 0]), (q_66, aJ E 6000 (fun _ => 0)), (q_67, aS E 4096 (fun _ => 0)), (q_68, aS E 64000 (fun _ => 0)), (q_69, aI E 15 (fun _ => 0)), (q_70, aJ E 2000 (fun _ => 0)), (q_71, aI E 2000 (fun _ => 0))] := hD
  refine lv_aload_n hx hb dX9_init_56 rfl (lv_at hl 0 rfl) ?_
  refine lv_iconst (v := nI 3) hx hb dX9_init_57 (by decide) ?_
  refine cw_newa (E := E) (atype := .long) (ty := .long) (a0 := (3, .inr (.inl (fun _ => 0)))) hx hb (hts _ wdA_long) rfl hK hP hD hS hA 2 rfl rfl (fun _ => rfl) (by decide) (by decide) (by decide) (by decide) (by decide) dX9_init_58 (fun q_72 H hP hD hS => ?_)
  have hP : va_P E.1 vwCl [(h0, ob 9 [.null, .null, .null, .ref q_66, .ref q_67, .ref q_68, .ref q_69, .ref q_70, .ref q_71, .null, .null, .int 0, .int 0, .int 0, .int 0, .null, .int 0, .int 0]), (q_66, aJ E 6000 (fun _ => 0)), (q_67, aS E 4096 (fun _ => 0)), (q_68, aS E 64000 (fun _ => 0)), (q_69, aI E 15 (fun _ => 0)), (q_70, aJ E 2000 (fun _ => 0)), (q_71, aI E 2000 (fun _ => 0)), (q_72, aJ E 3 (fun _ => 0))] H := hP
  have hD : va_D A [(h0, ob 9 [.null, .null, .null, .ref q_66, .ref q_67, .ref q_68, .ref q_69, .ref q_70, .ref q_71, .null, .null, .int 0, .int 0, .int 0, .int 0, .null, .int 0, .int 0]), (q_66, aJ E 6000 (fun _ => 0)), (q_67, aS E 4096 (fun _ => 0)), (q_68, aS E 64000 (fun _ => 0)), (q_69, aI E 15 (fun _ => 0)), (q_70, aJ E 2000 (fun _ => 0)), (q_71, aI E 2000 (fun _ => 0)), (q_72, aJ E 3 (fun _ => 0))] := hD
  refine W.widen (k := 7) (n := 78114) (by decide) (by decide) ?_
  refine va_putF (D := E.1) (ci := 9) (v := .ref q_72) (ty := .array .long) (C := RX9) (T := TX9) (N := 18) hx hb hts iX9 tyX9 tyX9_ok nmX9 hown hK hP hD hS 0 rfl rfl 9 (by decide) (hts _ wdF_RX9_33) (fun _ h9 => h9) rfl hin rfl (by decide +kernel) rfl rfl (Nat.le_of_ble_eq_true rfl) dX9_init_60 (fun H locs hP hD hS => ?_)
  have hP : va_P E.1 vwCl [(h0, ob 9 [.null, .null, .null, .ref q_66, .ref q_67, .ref q_68, .ref q_69, .ref q_70, .ref q_71, .ref q_72, .null, .int 0, .int 0, .int 0, .int 0, .null, .int 0, .int 0]), (q_66, aJ E 6000 (fun _ => 0)), (q_67, aS E 4096 (fun _ => 0)), (q_68, aS E 64000 (fun _ => 0)), (q_69, aI E 15 (fun _ => 0)), (q_70, aJ E 2000 (fun _ => 0)), (q_71, aI E 2000 (fun _ => 0)), (q_72, aJ E 3 (fun _ => 0))] H := hP
  have hD : va_D A [(h0, ob 9 [.null, .null, .null, .ref q_66, .ref q_67, .ref q_68, .ref q_69, .ref q_70, .ref q_71, .ref q_72, .null, .int 0, .int 0, .int 0, .int 0, .null, .int 0, .int 0]), (q_66, aJ E 6000 (fun _ => 0)), (q_67, aS E 4096 (fun _ => 0)), (q_68, aS E 64000 (fun _ => 0)), (q_69, aI E 15 (fun _ => 0)), (q_70, aJ E 2000 (fun _ => 0)), (q_71, aI E 2000 (fun _ => 0)), (q_72, aJ E 3 (fun _ => 0))] := hD
  refine lv_aload_n hx hb dX9_init_63 rfl (lv_at hl 0 rfl) ?_
  refine lv_bipush (v := nI 16) hx hb dX9_init_64 (by decide) ?_
  refine cw_newa (E := E) (atype := .int) (ty := .int) (a0 := (16, .inl (fun _ => 0))) hx hb (hts _ wdA_int) rfl hK hP hD hS hA 1 rfl rfl (fun _ => rfl) (by decide) (by decide) (by decide) (by decide) (by decide) dX9_init_66 (fun q_73 H hP hD hS => ?_)
  have hP : va_P E.1 vwCl [(h0, ob 9 [.null, .null, .null, .ref q_66, .ref q_67, .ref q_68, .ref q_69, .ref q_70, .ref q_71, .ref q_72, .null, .int 0, .int 0, .int 0, .int 0, .null, .int 0, .int 0]), (q_66, aJ E 6000 (fun _ => 0)), (q_67, aS E 4096 (fun _ => 0)), (q_68, aS E 64000 (fun _ => 0)), (q_69, aI E 15 (fun _ => 0)), (q_70, aJ E 2000 (fun _ => 0)), (q_71, aI E 2000 (fun _ => 0)), (q_72, aJ E 3 (fun _ => 0)), (q_73, aI E 16 (fun _ => 0))] H := hP
  have hD : va_D A [(h0, ob 9 [.null, .null, .null, .ref q_66, .ref q_67, .ref q_68, .ref q_69, .ref q_70, .ref q_71, .ref q_72, .null, .int 0, .int 0, .int 0, .int 0, .null, .int 0, .int 0]), (q_66, aJ E 6000 (fun _ => 0)), (q_67, aS E 4096 (fun _ => 0)), (q_68, aS E 64000 (fun _ => 0)), (q_69, aI E 15 (fun _ => 0)), (q_70, aJ E 2000 (fun _ => 0)), (q_71, aI E 2000 (fun _ => 0)), (q_72, aJ E 3 (fun _ => 0)), (q_73, aI E 16 (fun _ => 0))] := hD
  refine W.widen (k := 8) (n := 78130) (by decide) (by decide) ?_
  refine va_putF (D := E.1) (ci := 9) (v := .ref q_73) (ty := .array .int) (C := RX9) (T := TX9) (N := 18) hx hb hts iX9 tyX9 tyX9_ok nmX9 hown hK hP hD hS 0 rfl rfl 10 (by decide) (hts _ wdF_RX9_36) (fun _ h9 => h9) rfl hin rfl (by decide +kernel) rfl rfl (Nat.le_of_ble_eq_true rfl) dX9_init_68 (fun H locs hP hD hS => ?_)
  have hP : va_P E.1 vwCl [(h0, ob 9 [.null, .null, .null, .ref q_66, .ref q_67, .ref q_68, .ref q_69, .ref q_70, .ref q_71, .ref q_72, .ref q_73, .int 0, .int 0, .int 0, .int 0, .null, .int 0, .int 0]), (q_66, aJ E 6000 (fun _ => 0)), (q_67, aS E 4096 (fun _ => 0)), (q_68, aS E 64000 (fun _ => 0)), (q_69, aI E 15 (fun _ => 0)), (q_70, aJ E 2000 (fun _ => 0)), (q_71, aI E 2000 (fun _ => 0)), (q_72, aJ E 3 (fun _ => 0)), (q_73, aI E 16 (fun _ => 0))] H := hP
  have hD : va_D A [(h0, ob 9 [.null, .null, .null, .ref q_66, .ref q_67, .ref q_68, .ref q_69, .ref q_70, .ref q_71, .ref q_72, .ref q_73, .int 0, .int 0, .int 0, .int 0, .null, .int 0, .int 0]), (q_66, aJ E 6000 (fun _ => 0)), (q_67, aS E 4096 (fun _ => 0)), (q_68, aS E 64000 (fun _ => 0)), (q_69, aI E 15 (fun _ => 0)), (q_70, aJ E 2000 (fun _ => 0)), (q_71, aI E 2000 (fun _ => 0)), (q_72, aJ E 3 (fun _ => 0)), (q_73, aI E 16 (fun _ => 0))] := hD
  refine lv_aload_n hx hb dX9_init_71 rfl (lv_at hl 0 rfl) ?_
  refine lv_iconst (v := (-1)) hx hb dX9_init_72 (by decide) ?_
  refine va_put (D := E.1) (ci := 9) (v := .int (-1)) (ty := .int) (C := RX9) (T := TX9) (N := 18) hx hb hts iX9 tyX9 tyX9_ok nmX9 hown hK hP hD hS 0 rfl rfl 14 (by decide) (hts _ wdF_RX9_39) (fun _ h9 => h9) rfl (by decide +kernel) rfl rfl (Nat.le_of_ble_eq_true rfl) dX9_init_73 (fun H locs hP hD hS => ?_)
  have hP : va_P E.1 vwCl [(h0, ob 9 [.null, .null, .null, .ref q_66, .ref q_67, .ref q_68, .ref q_69, .ref q_70, .ref q_71, .ref q_72, .ref q_73, .int 0, .int 0, .int 0, .int (-1), .null, .int 0, .int 0]), (q_66, aJ E 6000 (fun _ => 0)), (q_67, aS E 4096 (fun _ => 0)), (q_68, aS E 64000 (fun _ => 0)), (q_69, aI E 15 (fun _ => 0)), (q_70, aJ E 2000 (fun _ => 0)), (q_71, aI E 2000 (fun _ => 0)), (q_72, aJ E 3 (fun _ => 0)), (q_73, aI E 16 (fun _ => 0))] H := hP
  have hD : va_D A [(h0, ob 9 [.null, .null, .null, .ref q_66, .ref q_67, .ref q_68, .ref q_69, .ref q_70, .ref q_71, .ref q_72, .ref q_73, .int 0, .int 0, .int 0, .int (-1), .null, .int 0, .int 0]), (q_66, aJ E 6000 (fun _ => 0)), (q_67, aS E 4096 (fun _ => 0)), (q_68, aS E 64000 (fun _ => 0)), (q_69, aI E 15 (fun _ => 0)), (q_70, aJ E 2000 (fun _ => 0)), (q_71, aI E 2000 (fun _ => 0)), (q_72, aJ E 3 (fun _ => 0)), (q_73, aI E 16 (fun _ => 0))] := hD
  refine lv_aload_n hx hb dX9_init_76 rfl (lv_at hl 0 rfl) ?_
  refine lv_bipush (v := nI 12) hx hb dX9_init_77 (by decide) ?_
  refine cw_newa (E := E) (atype := .int) (ty := .int) (a0 := (12, .inl (fun _ => 0))) hx hb (hts _ wdA_int) rfl hK hP hD hS hA 1 rfl rfl (fun _ => rfl) (by decide) (by decide) (by decide) (by decide) (by decide) dX9_init_79 (fun q_74 H hP hD hS => ?_)
  have hP : va_P E.1 vwCl [(h0, ob 9 [.null, .null, .null, .ref q_66, .ref q_67, .ref q_68, .ref q_69, .ref q_70, .ref q_71, .ref q_72, .ref q_73, .int 0, .int 0, .int 0, .int (-1), .null, .int 0, .int 0]), (q_66, aJ E 6000 (fun _ => 0)), (q_67, aS E 4096 (fun _ => 0)), (q_68, aS E 64000 (fun _ => 0)), (q_69, aI E 15 (fun _ => 0)), (q_70, aJ E 2000 (fun _ => 0)), (q_71, aI E 2000 (fun _ => 0)), (q_72, aJ E 3 (fun _ => 0)), (q_73, aI E 16 (fun _ => 0)), (q_74, aI E 12 (fun _ => 0))] H := hP
  have hD : va_D A [(h0, ob 9 [.null, .null, .null, .ref q_66, .ref q_67, .ref q_68, .ref q_69, .ref q_70, .ref q_71, .ref q_72, .ref q_73, .int 0, .int 0, .int 0, .int (-1), .null, .int 0, .int 0]), (q_66, aJ E 6000 (fun _ => 0)), (q_67, aS E 4096 (fun _ => 0)), (q_68, aS E 64000 (fun _ => 0)), (q_69, aI E 15 (fun _ => 0)), (q_70, aJ E 2000 (fun _ => 0)), (q_71, aI E 2000 (fun _ => 0)), (q_72, aJ E 3 (fun _ => 0)), (q_73, aI E 16 (fun _ => 0)), (q_74, aI E 12 (fun _ => 0))] := hD
  refine W.widen (k := 9) (n := 78142) (by decide) (by decide) ?_
  refine va_putF (D := E.1) (ci := 9) (v := .ref q_74) (ty := .array .int) (C := RX9) (T := TX9) (N := 18) hx hb hts iX9 tyX9 tyX9_ok nmX9 hown hK hP hD hS 0 rfl rfl 15 (by decide) (hts _ wdF_RX9_43) (fun _ h9 => h9) rfl hin rfl (by decide +kernel) rfl rfl (Nat.le_of_ble_eq_true rfl) dX9_init_81 (fun H locs hP hD hS => ?_)
  have hP : va_P E.1 vwCl [(h0, ob 9 [.null, .null, .null, .ref q_66, .ref q_67, .ref q_68, .ref q_69, .ref q_70, .ref q_71, .ref q_72, .ref q_73, .int 0, .int 0, .int 0, .int (-1), .ref q_74, .int 0, .int 0]), (q_66, aJ E 6000 (fun _ => 0)), (q_67, aS E 4096 (fun _ => 0)), (q_68, aS E 64000 (fun _ => 0)), (q_69, aI E 15 (fun _ => 0)), (q_70, aJ E 2000 (fun _ => 0)), (q_71, aI E 2000 (fun _ => 0)), (q_72, aJ E 3 (fun _ => 0)), (q_73, aI E 16 (fun _ => 0)), (q_74, aI E 12 (fun _ => 0))] H := hP
  have hD : va_D A [(h0, ob 9 [.null, .null, .null, .ref q_66, .ref q_67, .ref q_68, .ref q_69, .ref q_70, .ref q_71, .ref q_72, .ref q_73, .int 0, .int 0, .int 0, .int (-1), .ref q_74, .int 0, .int 0]), (q_66, aJ E 6000 (fun _ => 0)), (q_67, aS E 4096 (fun _ => 0)), (q_68, aS E 64000 (fun _ => 0)), (q_69, aI E 15 (fun _ => 0)), (q_70, aJ E 2000 (fun _ => 0)), (q_71, aI E 2000 (fun _ => 0)), (q_72, aJ E 3 (fun _ => 0)), (q_73, aI E 16 (fun _ => 0)), (q_74, aI E 12 (fun _ => 0))] := hD
  refine lv_aload_n hx hb dX9_init_84 rfl (lv_at hl 0 rfl) ?_
  refine lv_aload_n hx hb dX9_init_85 rfl (lv_at hl 1 rfl) ?_
  refine va_putF (D := E.1) (ci := 9) (v := .ref a1) (ty := .object "CallerHall$Book") (C := RX9) (T := TX9) (N := 18) hx hb hts iX9 tyX9 tyX9_ok nmX9 hown hK hP hD hS 0 rfl rfl 0 (by decide) (hts _ wdF_RX9_46) (fun _ h9 => h9) rfl hin rfl (by decide +kernel) rfl rfl (Nat.le_of_ble_eq_true rfl) dX9_init_86 (fun H locs hP hD hS => ?_)
  have hP : va_P E.1 vwCl [(h0, ob 9 [.ref a1, .null, .null, .ref q_66, .ref q_67, .ref q_68, .ref q_69, .ref q_70, .ref q_71, .ref q_72, .ref q_73, .int 0, .int 0, .int 0, .int (-1), .ref q_74, .int 0, .int 0]), (q_66, aJ E 6000 (fun _ => 0)), (q_67, aS E 4096 (fun _ => 0)), (q_68, aS E 64000 (fun _ => 0)), (q_69, aI E 15 (fun _ => 0)), (q_70, aJ E 2000 (fun _ => 0)), (q_71, aI E 2000 (fun _ => 0)), (q_72, aJ E 3 (fun _ => 0)), (q_73, aI E 16 (fun _ => 0)), (q_74, aI E 12 (fun _ => 0))] H := hP
  have hD : va_D A [(h0, ob 9 [.ref a1, .null, .null, .ref q_66, .ref q_67, .ref q_68, .ref q_69, .ref q_70, .ref q_71, .ref q_72, .ref q_73, .int 0, .int 0, .int 0, .int (-1), .ref q_74, .int 0, .int 0]), (q_66, aJ E 6000 (fun _ => 0)), (q_67, aS E 4096 (fun _ => 0)), (q_68, aS E 64000 (fun _ => 0)), (q_69, aI E 15 (fun _ => 0)), (q_70, aJ E 2000 (fun _ => 0)), (q_71, aI E 2000 (fun _ => 0)), (q_72, aJ E 3 (fun _ => 0)), (q_73, aI E 16 (fun _ => 0)), (q_74, aI E 12 (fun _ => 0))] := hD
  refine lv_aload_n hx hb dX9_init_89 rfl (lv_at hl 0 rfl) ?_
  refine lv_aload_n hx hb dX9_init_90 rfl (lv_at hl 2 rfl) ?_
  refine va_putF (D := E.1) (ci := 9) (v := .ref a2) (ty := .object "CallerHall$Caller") (C := RX9) (T := TX9) (N := 18) hx hb hts iX9 tyX9 tyX9_ok nmX9 hown hK hP hD hS 0 rfl rfl 1 (by decide) (hts _ wdF_RX9_50) (fun _ h9 => h9) rfl hin rfl (by decide +kernel) rfl rfl (Nat.le_of_ble_eq_true rfl) dX9_init_91 (fun H locs hP hD hS => ?_)
  have hP : va_P E.1 vwCl [(h0, ob 9 [.ref a1, .ref a2, .null, .ref q_66, .ref q_67, .ref q_68, .ref q_69, .ref q_70, .ref q_71, .ref q_72, .ref q_73, .int 0, .int 0, .int 0, .int (-1), .ref q_74, .int 0, .int 0]), (q_66, aJ E 6000 (fun _ => 0)), (q_67, aS E 4096 (fun _ => 0)), (q_68, aS E 64000 (fun _ => 0)), (q_69, aI E 15 (fun _ => 0)), (q_70, aJ E 2000 (fun _ => 0)), (q_71, aI E 2000 (fun _ => 0)), (q_72, aJ E 3 (fun _ => 0)), (q_73, aI E 16 (fun _ => 0)), (q_74, aI E 12 (fun _ => 0))] H := hP
  have hD : va_D A [(h0, ob 9 [.ref a1, .ref a2, .null, .ref q_66, .ref q_67, .ref q_68, .ref q_69, .ref q_70, .ref q_71, .ref q_72, .ref q_73, .int 0, .int 0, .int 0, .int (-1), .ref q_74, .int 0, .int 0]), (q_66, aJ E 6000 (fun _ => 0)), (q_67, aS E 4096 (fun _ => 0)), (q_68, aS E 64000 (fun _ => 0)), (q_69, aI E 15 (fun _ => 0)), (q_70, aJ E 2000 (fun _ => 0)), (q_71, aI E 2000 (fun _ => 0)), (q_72, aJ E 3 (fun _ => 0)), (q_73, aI E 16 (fun _ => 0)), (q_74, aI E 12 (fun _ => 0))] := hD
  refine lv_aload_n hx hb dX9_init_94 rfl (lv_at hl 0 rfl) ?_
  refine lv_aload_n hx hb dX9_init_95 rfl (lv_at hl 3 rfl) ?_
  refine va_putF (D := E.1) (ci := 9) (v := .ref a3) (ty := .object "CallerHall$Floor") (C := RX9) (T := TX9) (N := 18) hx hb hts iX9 tyX9 tyX9_ok nmX9 hown hK hP hD hS 0 rfl rfl 2 (by decide) (hts _ wdF_RX9_54) (fun _ h9 => h9) rfl hin rfl (by decide +kernel) rfl rfl (Nat.le_of_ble_eq_true rfl) dX9_init_96 (fun H locs hP hD hS => ?_)
  have hP : va_P E.1 vwCl [(h0, ob 9 [.ref a1, .ref a2, .ref a3, .ref q_66, .ref q_67, .ref q_68, .ref q_69, .ref q_70, .ref q_71, .ref q_72, .ref q_73, .int 0, .int 0, .int 0, .int (-1), .ref q_74, .int 0, .int 0]), (q_66, aJ E 6000 (fun _ => 0)), (q_67, aS E 4096 (fun _ => 0)), (q_68, aS E 64000 (fun _ => 0)), (q_69, aI E 15 (fun _ => 0)), (q_70, aJ E 2000 (fun _ => 0)), (q_71, aI E 2000 (fun _ => 0)), (q_72, aJ E 3 (fun _ => 0)), (q_73, aI E 16 (fun _ => 0)), (q_74, aI E 12 (fun _ => 0))] H := hP
  have hD : va_D A [(h0, ob 9 [.ref a1, .ref a2, .ref a3, .ref q_66, .ref q_67, .ref q_68, .ref q_69, .ref q_70, .ref q_71, .ref q_72, .ref q_73, .int 0, .int 0, .int 0, .int (-1), .ref q_74, .int 0, .int 0]), (q_66, aJ E 6000 (fun _ => 0)), (q_67, aS E 4096 (fun _ => 0)), (q_68, aS E 64000 (fun _ => 0)), (q_69, aI E 15 (fun _ => 0)), (q_70, aJ E 2000 (fun _ => 0)), (q_71, aI E 2000 (fun _ => 0)), (q_72, aJ E 3 (fun _ => 0)), (q_73, aI E 16 (fun _ => 0)), (q_74, aI E 12 (fun _ => 0))] := hD
  exact cV_ret F hP hD hS hK (q_66, q_67, q_68, q_69, q_70, q_71, q_72, q_73, q_74) trivial [0, 1, 2, 3, 4, 5, 6, 7, 8, 9] rfl rfl dX9_init_99 (by decide) (by decide)
theorem yy_X9_init : cY yX9_init cX9_init 4 none 3 := ⟨wdK_X9_init, wdZ_RX9, by decide +kernel⟩
theorem dX7_init_0 : decode cX7_init 0 = .ok (.aload_n 0, 1) := by decide +kernel
theorem dX7_init_1 : decode cX7_init 1 = .ok (.invokespecial 3, 3) := by decide +kernel
theorem dX7_init_4 : decode cX7_init 4 = .ok (.aload_n 0, 1) := by decide +kernel
theorem dX7_init_5 : decode cX7_init 5 = .ok (.bipush 6, 2) := by decide +kernel
theorem dX7_init_7 : decode cX7_init 7 = .ok (.newarray .int, 2) := by decide +kernel
theorem dX7_init_9 : decode cX7_init 9 = .ok (.putfield 9, 3) := by decide +kernel
theorem dX7_init_12 : decode cX7_init 12 = .ok (.aload_n 0, 1) := by decide +kernel
theorem dX7_init_13 : decode cX7_init 13 = .ok (.aload_n 1, 1) := by decide +kernel
theorem dX7_init_14 : decode cX7_init 14 = .ok (.putfield 15, 3) := by decide +kernel
theorem dX7_init_17 : decode cX7_init 17 = .ok (.aload_n 0, 1) := by decide +kernel
theorem dX7_init_18 : decode cX7_init 18 = .ok (.aload_n 2, 1) := by decide +kernel
theorem dX7_init_19 : decode cX7_init 19 = .ok (.putfield 19, 3) := by decide +kernel
theorem dX7_init_22 : decode cX7_init 22 = .ok (.return_, 1) := by decide +kernel
abbrev rm_c_X7_init : Room := { frames := 1, cells := 1, slots := 6, locals := 20 }
set_option maxHeartbeats 4000000 in
set_option maxRecDepth 100000 in
theorem c_X7_init (l : Launch) (E : cE) (h0 : Nat) (a1 : Nat) (a2 : Nat) : cM l E yX7_init cX7_init 3 none rm_c_X7_init [.ref h0, .ref a1, .ref a2] [(h0, ob 7 [.null, .null, .int 0, .int 0, .int 0, .int 0, .int 0, .int 0, .int 0, .int 0, .int 0, .int 0, .null])] (qV E (fun (q_75 : Nat) => True) (fun (q_75 : Nat) => [(h0, ob 7 [.ref a1, .ref a2, .int 0, .int 0, .int 0, .int 0, .int 0, .int 0, .int 0, .int 0, .int 0, .int 0, .ref q_75]), (q_75, aI E 6 (fun _ => 0))])) := by
  refine cM_of (by decide) (Nat.le_of_ble_eq_true rfl) ?_
  intro p e s m below meth c ls A F hA hS hP hD hK hZ hl
  obtain ⟨hx, hb, hr, hml, hown, hts, hlk, hin⟩ := id F
  have hown : s.vm.findClass RX7 = some m.cls := hown
  have hin : meth.name = "<init>" := hin
  have hl : lv_has ls 3 [(0, .ref h0), (1, .ref a1), (2, .ref a2)] := hl
  refine lv_aload_n hx hb dX7_init_0 rfl (lv_at hl 0 rfl) ?_
  refine W.objInit hx hb hown (hts _ wdM_RX7_3) (hts _ wd_oi) (hts _ wd_oc) rfl (by rw [hml]; exact hl.1) rfl dX7_init_1 (by decide) (Nat.le_of_ble_eq_true rfl) ?_
  refine W.eq (g2 := F0 m 4 ls []) rfl ?_
  refine lv_aload_n hx hb dX7_init_4 rfl (lv_at hl 0 rfl) ?_
  refine lv_bipush (v := nI 6) hx hb dX7_init_5 (by decide) ?_
  refine cw_newa (E := E) (atype := .int) (ty := .int) (a0 := (6, .inl (fun _ => 0))) hx hb (hts _ wdA_int) rfl hK hP hD hS hA 1 rfl rfl (fun _ => rfl) (by decide) (by decide) (by decide) (by decide) (by decide) dX7_init_7 (fun q_75 H hP hD hS => ?_)
  have hP : va_P E.1 vwCl [(h0, ob 7 [.null, .null, .int 0, .int 0, .int 0, .int 0, .int 0, .int 0, .int 0, .int 0, .int 0, .int 0, .null]), (q_75, aI E 6 (fun _ => 0))] H := hP
  have hD : va_D A [(h0, ob 7 [.null, .null, .int 0, .int 0, .int 0, .int 0, .int 0, .int 0, .int 0, .int 0, .int 0, .int 0, .null]), (q_75, aI E 6 (fun _ => 0))] := hD
  refine W.widen (k := 1) (n := 6) (by decide) (by decide) ?_
  refine va_putF (D := E.1) (ci := 7) (v := .ref q_75) (ty := .array .int) (C := RX7) (T := TX7) (N := 13) hx hb hts iX7 tyX7 tyX7_ok nmX7 hown hK hP hD hS 0 rfl rfl 12 (by decide) (hts _ wdF_RX7_9) (fun _ h9 => h9) rfl hin rfl (by decide +kernel) rfl rfl (Nat.le_of_ble_eq_true rfl) dX7_init_9 (fun H locs hP hD hS => ?_)
  have hP : va_P E.1 vwCl [(h0, ob 7 [.null, .null, .int 0, .int 0, .int 0, .int 0, .int 0, .int 0, .int 0, .int 0, .int 0, .int 0, .ref q_75]), (q_75, aI E 6 (fun _ => 0))] H := hP
  have hD : va_D A [(h0, ob 7 [.null, .null, .int 0, .int 0, .int 0, .int 0, .int 0, .int 0, .int 0, .int 0, .int 0, .int 0, .ref q_75]), (q_75, aI E 6 (fun _ => 0))] := hD
  refine lv_aload_n hx hb dX7_init_12 rfl (lv_at hl 0 rfl) ?_
  refine lv_aload_n hx hb dX7_init_13 rfl (lv_at hl 1 rfl) ?_
  refine va_putF (D := E.1) (ci := 7) (v := .ref a1) (ty := .object "CallerHall$Tokens") (C := RX7) (T := TX7) (N := 13) hx hb hts iX7 tyX7 tyX7_ok nmX7 hown hK hP hD hS 0 rfl rfl 0 (by decide) (hts _ wdF_RX7_15) (fun _ h9 => h9) rfl hin rfl (by decide +kernel) rfl rfl (Nat.le_of_ble_eq_true rfl) dX7_init_14 (fun H locs hP hD hS => ?_)
  have hP : va_P E.1 vwCl [(h0, ob 7 [.ref a1, .null, .int 0, .int 0, .int 0, .int 0, .int 0, .int 0, .int 0, .int 0, .int 0, .int 0, .ref q_75]), (q_75, aI E 6 (fun _ => 0))] H := hP
  have hD : va_D A [(h0, ob 7 [.ref a1, .null, .int 0, .int 0, .int 0, .int 0, .int 0, .int 0, .int 0, .int 0, .int 0, .int 0, .ref q_75]), (q_75, aI E 6 (fun _ => 0))] := hD
  refine lv_aload_n hx hb dX7_init_17 rfl (lv_at hl 0 rfl) ?_
  refine lv_aload_n hx hb dX7_init_18 rfl (lv_at hl 2 rfl) ?_
  refine va_putF (D := E.1) (ci := 7) (v := .ref a2) (ty := .object "CallerHall$Book") (C := RX7) (T := TX7) (N := 13) hx hb hts iX7 tyX7 tyX7_ok nmX7 hown hK hP hD hS 0 rfl rfl 1 (by decide) (hts _ wdF_RX7_19) (fun _ h9 => h9) rfl hin rfl (by decide +kernel) rfl rfl (Nat.le_of_ble_eq_true rfl) dX7_init_19 (fun H locs hP hD hS => ?_)
  have hP : va_P E.1 vwCl [(h0, ob 7 [.ref a1, .ref a2, .int 0, .int 0, .int 0, .int 0, .int 0, .int 0, .int 0, .int 0, .int 0, .int 0, .ref q_75]), (q_75, aI E 6 (fun _ => 0))] H := hP
  have hD : va_D A [(h0, ob 7 [.ref a1, .ref a2, .int 0, .int 0, .int 0, .int 0, .int 0, .int 0, .int 0, .int 0, .int 0, .int 0, .ref q_75]), (q_75, aI E 6 (fun _ => 0))] := hD
  exact cV_ret F hP hD hS hK (q_75) trivial [0, 1] rfl rfl dX7_init_22 (by decide) (by decide)
theorem yy_X7_init : cY yX7_init cX7_init 3 none 2 := ⟨wdK_X7_init, wdZ_RX7, by decide +kernel⟩
