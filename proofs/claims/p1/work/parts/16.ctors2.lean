def kwC (i : Nat) : Int32 := ((kwB i &&& nI 255).toUInt32 % 65536).toInt32
def kwSh (x : Int64) : Nat → Int64
  | 0 => x
  | n + 1 => if (x.toUInt64 >>> ((nI 56).toInt64.toUInt64 &&& Int64.toUInt64 63)).toInt64 = 0 then kwSh (x <<< ((nI 8).toInt64 &&& 63)) n else x
def kwW : Nat → Nat
  | 0 => 0
  | i + 1 => if kwC i = nI 32 then kwW i + 1 else kwW i
def kwG : Nat → Nat → Int64
  | 0 => fun _ => 0
  | i + 1 => if kwC i = nI 32 then vp_updL (kwG i) (kwW i) (kwSh (kwG i (kwW i)) 8) else vp_updL (kwG i) (kwW i) (kwG i (kwW i) <<< ((nI 8).toInt64 &&& 63) ||| (kwC i).toInt64)
theorem kwW_lt : ∀ i, i < 182 → kwW i < 38 := by decide +kernel
theorem updL_self (f : Nat → Int64) (k : Nat) : ∀ j, f j = vp_updL f k (f k) j := by
  intro j
  by_cases h : j = k
  · rw [h, pk_uLs]
  · rw [pk_uLn h]
theorem updL_updL (f : Nat → Int64) (k : Nat) (x y : Int64) : vp_updL (vp_updL f k x) k y = vp_updL f k y := by
  funext j
  by_cases h : j = k
  · rw [h, pk_uLs, pk_uLs]
  · rw [pk_uLn h, pk_uLn h, pk_uLn h]
theorem dX10_init_0 : decode cX10_init 0 = .ok (.aload_n 0, 1) := by decide +kernel
theorem dX10_init_1 : decode cX10_init 1 = .ok (.invokespecial 3, 3) := by decide +kernel
theorem dX10_init_4 : decode cX10_init 4 = .ok (.aload_n 0, 1) := by decide +kernel
theorem dX10_init_5 : decode cX10_init 5 = .ok (.sipush 4096, 3) := by decide +kernel
theorem dX10_init_8 : decode cX10_init 8 = .ok (.newarray .byte, 2) := by decide +kernel
theorem dX10_init_10 : decode cX10_init 10 = .ok (.putfield 9, 3) := by decide +kernel
theorem dX10_init_13 : decode cX10_init 13 = .ok (.aload_n 0, 1) := by decide +kernel
theorem dX10_init_14 : decode cX10_init 14 = .ok (.bipush 38, 2) := by decide +kernel
theorem dX10_init_16 : decode cX10_init 16 = .ok (.newarray .long, 2) := by decide +kernel
theorem dX10_init_18 : decode cX10_init 18 = .ok (.putfield 15, 3) := by decide +kernel
theorem dX10_init_21 : decode cX10_init 21 = .ok (.aload_n 0, 1) := by decide +kernel
theorem dX10_init_22 : decode cX10_init 22 = .ok (.sipush 4098, 3) := by decide +kernel
theorem dX10_init_25 : decode cX10_init 25 = .ok (.newarray .int, 2) := by decide +kernel
theorem dX10_init_27 : decode cX10_init 27 = .ok (.putfield 19, 3) := by decide +kernel
theorem dX10_init_30 : decode cX10_init 30 = .ok (.aload_n 0, 1) := by decide +kernel
theorem dX10_init_31 : decode cX10_init 31 = .ok (.sipush 4098, 3) := by decide +kernel
theorem dX10_init_34 : decode cX10_init 34 = .ok (.newarray .int, 2) := by decide +kernel
theorem dX10_init_36 : decode cX10_init 36 = .ok (.putfield 23, 3) := by decide +kernel
theorem dX10_init_39 : decode cX10_init 39 = .ok (.aload_n 0, 1) := by decide +kernel
theorem dX10_init_40 : decode cX10_init 40 = .ok (.sipush 4098, 3) := by decide +kernel
theorem dX10_init_43 : decode cX10_init 43 = .ok (.newarray .int, 2) := by decide +kernel
theorem dX10_init_45 : decode cX10_init 45 = .ok (.putfield 26, 3) := by decide +kernel
theorem dX10_init_48 : decode cX10_init 48 = .ok (.aload_n 0, 1) := by decide +kernel
theorem dX10_init_49 : decode cX10_init 49 = .ok (.sipush 12294, 3) := by decide +kernel
theorem dX10_init_52 : decode cX10_init 52 = .ok (.newarray .long, 2) := by decide +kernel
theorem dX10_init_54 : decode cX10_init 54 = .ok (.putfield 29, 3) := by decide +kernel
theorem dX10_init_57 : decode cX10_init 57 = .ok (.iconst 0, 1) := by decide +kernel
theorem dX10_init_58 : decode cX10_init 58 = .ok (.istore_n 1, 1) := by decide +kernel
theorem dX10_init_59 : decode cX10_init 59 = .ok (.iconst 0, 1) := by decide +kernel
theorem dX10_init_60 : decode cX10_init 60 = .ok (.istore_n 2, 1) := by decide +kernel
theorem dX10_init_61 : decode cX10_init 61 = .ok (.iload_n 2, 1) := by decide +kernel
theorem dX10_init_62 : decode cX10_init 62 = .ok (.ldc 32, 2) := by decide +kernel
theorem dX10_init_64 : decode cX10_init 64 = .ok (.invokevirtual 34, 3) := by decide +kernel
theorem dX10_init_67 : decode cX10_init 67 = .ok (.if_icmp .ge 93, 3) := by decide +kernel
theorem dX10_init_70 : decode cX10_init 70 = .ok (.iload_n 1, 1) := by decide +kernel
theorem dX10_init_71 : decode cX10_init 71 = .ok (.bipush 38, 2) := by decide +kernel
theorem dX10_init_73 : decode cX10_init 73 = .ok (.if_icmp .ge 87, 3) := by decide +kernel
theorem dX10_init_76 : decode cX10_init 76 = .ok (.ldc 32, 2) := by decide +kernel
theorem dX10_init_78 : decode cX10_init 78 = .ok (.iload_n 2, 1) := by decide +kernel
theorem dX10_init_79 : decode cX10_init 79 = .ok (.invokevirtual 40, 3) := by decide +kernel
theorem dX10_init_82 : decode cX10_init 82 = .ok (.istore_n 3, 1) := by decide +kernel
theorem dX10_init_83 : decode cX10_init 83 = .ok (.iload_n 3, 1) := by decide +kernel
theorem dX10_init_84 : decode cX10_init 84 = .ok (.bipush 32, 2) := by decide +kernel
theorem dX10_init_86 : decode cX10_init 86 = .ok (.if_icmp .ne 50, 3) := by decide +kernel
theorem dX10_init_89 : decode cX10_init 89 = .ok (.iconst 0, 1) := by decide +kernel
theorem dX10_init_90 : decode cX10_init 90 = .ok (.istore 4, 2) := by decide +kernel
theorem dX10_init_92 : decode cX10_init 92 = .ok (.iload 4, 2) := by decide +kernel
theorem dX10_init_94 : decode cX10_init 94 = .ok (.bipush 8, 2) := by decide +kernel
theorem dX10_init_96 : decode cX10_init 96 = .ok (.if_icmp .ge 34, 3) := by decide +kernel
theorem dX10_init_99 : decode cX10_init 99 = .ok (.aload_n 0, 1) := by decide +kernel
theorem dX10_init_100 : decode cX10_init 100 = .ok (.getfield 15, 3) := by decide +kernel
theorem dX10_init_103 : decode cX10_init 103 = .ok (.iload_n 1, 1) := by decide +kernel
theorem dX10_init_104 : decode cX10_init 104 = .ok (.laload, 1) := by decide +kernel
theorem dX10_init_105 : decode cX10_init 105 = .ok (.bipush 56, 2) := by decide +kernel
theorem dX10_init_107 : decode cX10_init 107 = .ok (.lushr, 1) := by decide +kernel
theorem dX10_init_108 : decode cX10_init 108 = .ok (.lconst 0, 1) := by decide +kernel
theorem dX10_init_109 : decode cX10_init 109 = .ok (.lcmp, 1) := by decide +kernel
theorem dX10_init_110 : decode cX10_init 110 = .ok (.ifCond .ne 20, 3) := by decide +kernel
theorem dX10_init_113 : decode cX10_init 113 = .ok (.aload_n 0, 1) := by decide +kernel
theorem dX10_init_114 : decode cX10_init 114 = .ok (.getfield 15, 3) := by decide +kernel
theorem dX10_init_117 : decode cX10_init 117 = .ok (.iload_n 1, 1) := by decide +kernel
theorem dX10_init_118 : decode cX10_init 118 = .ok (.dup2, 1) := by decide +kernel
theorem dX10_init_119 : decode cX10_init 119 = .ok (.laload, 1) := by decide +kernel
theorem dX10_init_120 : decode cX10_init 120 = .ok (.bipush 8, 2) := by decide +kernel
theorem dX10_init_122 : decode cX10_init 122 = .ok (.lshl, 1) := by decide +kernel
theorem dX10_init_123 : decode cX10_init 123 = .ok (.lastore, 1) := by decide +kernel
theorem dX10_init_124 : decode cX10_init 124 = .ok (.iinc 4 1, 3) := by decide +kernel
theorem dX10_init_127 : decode cX10_init 127 = .ok (.goto (-35), 3) := by decide +kernel
theorem dX10_init_130 : decode cX10_init 130 = .ok (.iinc 1 1, 3) := by decide +kernel
theorem dX10_init_133 : decode cX10_init 133 = .ok (.goto 21, 3) := by decide +kernel
theorem dX10_init_136 : decode cX10_init 136 = .ok (.aload_n 0, 1) := by decide +kernel
theorem dX10_init_137 : decode cX10_init 137 = .ok (.getfield 15, 3) := by decide +kernel
theorem dX10_init_140 : decode cX10_init 140 = .ok (.iload_n 1, 1) := by decide +kernel
theorem dX10_init_141 : decode cX10_init 141 = .ok (.aload_n 0, 1) := by decide +kernel
theorem dX10_init_142 : decode cX10_init 142 = .ok (.getfield 15, 3) := by decide +kernel
theorem dX10_init_145 : decode cX10_init 145 = .ok (.iload_n 1, 1) := by decide +kernel
theorem dX10_init_146 : decode cX10_init 146 = .ok (.laload, 1) := by decide +kernel
theorem dX10_init_147 : decode cX10_init 147 = .ok (.bipush 8, 2) := by decide +kernel
theorem dX10_init_149 : decode cX10_init 149 = .ok (.lshl, 1) := by decide +kernel
theorem dX10_init_150 : decode cX10_init 150 = .ok (.iload_n 3, 1) := by decide +kernel
theorem dX10_init_151 : decode cX10_init 151 = .ok (.i2l, 1) := by decide +kernel
theorem dX10_init_152 : decode cX10_init 152 = .ok (.lor, 1) := by decide +kernel
theorem dX10_init_153 : decode cX10_init 153 = .ok (.lastore, 1) := by decide +kernel
theorem dX10_init_154 : decode cX10_init 154 = .ok (.iinc 2 1, 3) := by decide +kernel
theorem dX10_init_157 : decode cX10_init 157 = .ok (.goto (-96), 3) := by decide +kernel
theorem dX10_init_160 : decode cX10_init 160 = .ok (.return_, 1) := by decide +kernel
abbrev rm_c_X10_init : Room := { frames := 4, cells := 6, slots := 28722, locals := 85 }
set_option maxHeartbeats 4000000 in
set_option maxRecDepth 100000 in
theorem c_X10_init (l : Launch) (E : cE) (h0 : Nat) : cM l E yX10_init cX10_init 5 none rm_c_X10_init [.ref h0] [(h0, ob 10 [.null, .int 0, .null, .null, .null, .null, .null, .int 0])] (qV E (fun (u : Nat × Nat × Nat × Nat × Nat × Nat) => match u with | (q_145, q_146, q_147, q_148, q_149, q_150) => True) (fun (u : Nat × Nat × Nat × Nat × Nat × Nat) => match u with | (q_145, q_146, q_147, q_148, q_149, q_150) => [(h0, ob 10 [.ref q_145, .int 0, .ref q_146, .ref q_147, .ref q_148, .ref q_149, .ref q_150, .int 0]), (q_145, aB E 4096 (fun _ => 0)), (q_146, aJ E 38 (kwG 182)), (q_147, aI E 4098 (fun _ => 0)), (q_148, aI E 4098 (fun _ => 0)), (q_149, aI E 4098 (fun _ => 0)), (q_150, aJ E 12294 (fun _ => 0))])) := by
  refine cM_of (by decide) (Nat.le_of_ble_eq_true rfl) ?_
  intro p e s m below meth c ls A F hA hS hP hD hK hZ hl
  obtain ⟨hx, hb, hr, hml, hown, hts, hlk, hin⟩ := id F
  have hown : s.vm.findClass RX10 = some m.cls := hown
  have hin : meth.name = "<init>" := hin
  have hl : lv_has ls 5 [(0, .ref h0)] := hl
  obtain ⟨_, _, hAO, hN_RX11_18, hN_RX11_43, hN_RX11_65, hN_RX10_83, hN_RX4_22, hStr⟩ := id hZ
  refine lv_aload_n hx hb dX10_init_0 rfl (lv_at hl 0 rfl) ?_
  refine W.objInit hx hb hown (hts _ wdM_RX10_3) (hts _ wd_oi) (hts _ wd_oc) rfl (by rw [hml]; exact hl.1) rfl dX10_init_1 (by decide) (Nat.le_of_ble_eq_true rfl) ?_
  refine W.eq (g2 := F0 m 4 ls []) rfl ?_
  refine lv_aload_n hx hb dX10_init_4 rfl (lv_at hl 0 rfl) ?_
  refine lv_sipush (v := nI 4096) hx hb dX10_init_5 (by decide) ?_
  refine cw_newa (E := E) (atype := .byte) (ty := .byte) (a0 := (4096, .inl (fun _ => 0))) hx hb (hts _ wdA_byte) rfl hK hP hD hS hA 0 rfl rfl (fun _ => rfl) (by decide) (by decide) (by decide) (by decide) (by decide) dX10_init_8 (fun q_145 H hP hD hS => ?_)
  have hP : va_P E.1 vwCl [(h0, ob 10 [.null, .int 0, .null, .null, .null, .null, .null, .int 0]), (q_145, aB E 4096 (fun _ => 0))] H := hP
  have hD : va_D A [(h0, ob 10 [.null, .int 0, .null, .null, .null, .null, .null, .int 0]), (q_145, aB E 4096 (fun _ => 0))] := hD
  refine W.widen (k := 1) (n := 4096) (by decide) (by decide) ?_
  refine va_putF (D := E.1) (ci := 10) (v := .ref q_145) (ty := .array .byte) (C := RX10) (T := TX10) (N := 8) hx hb hts iX10 tyX10 tyX10_ok nmX10 hown hK hP hD hS 0 rfl rfl 0 (by decide) (hts _ wdF_RX10_9) (fun _ h9 => h9) rfl hin rfl (by decide +kernel) rfl rfl (Nat.le_of_ble_eq_true rfl) dX10_init_10 (fun H locs hP hD hS => ?_)
  have hP : va_P E.1 vwCl [(h0, ob 10 [.ref q_145, .int 0, .null, .null, .null, .null, .null, .int 0]), (q_145, aB E 4096 (fun _ => 0))] H := hP
  have hD : va_D A [(h0, ob 10 [.ref q_145, .int 0, .null, .null, .null, .null, .null, .int 0]), (q_145, aB E 4096 (fun _ => 0))] := hD
  refine lv_aload_n hx hb dX10_init_13 rfl (lv_at hl 0 rfl) ?_
  refine lv_bipush (v := nI 38) hx hb dX10_init_14 (by decide) ?_
  refine cw_newa (E := E) (atype := .long) (ty := .long) (a0 := (38, .inr (.inl (fun _ => 0)))) hx hb (hts _ wdA_long) rfl hK hP hD hS hA 2 rfl rfl (fun _ => rfl) (by decide) (by decide) (by decide) (by decide) (by decide) dX10_init_16 (fun q_146 H hP hD hS => ?_)
  have hP : va_P E.1 vwCl [(h0, ob 10 [.ref q_145, .int 0, .null, .null, .null, .null, .null, .int 0]), (q_145, aB E 4096 (fun _ => 0)), (q_146, aJ E 38 (fun _ => 0))] H := hP
  have hD : va_D A [(h0, ob 10 [.ref q_145, .int 0, .null, .null, .null, .null, .null, .int 0]), (q_145, aB E 4096 (fun _ => 0)), (q_146, aJ E 38 (fun _ => 0))] := hD
  refine W.widen (k := 2) (n := 4134) (by decide) (by decide) ?_
  refine va_putF (D := E.1) (ci := 10) (v := .ref q_146) (ty := .array .long) (C := RX10) (T := TX10) (N := 8) hx hb hts iX10 tyX10 tyX10_ok nmX10 hown hK hP hD hS 0 rfl rfl 2 (by decide) (hts _ wdF_RX10_15) (fun _ h9 => h9) rfl hin rfl (by decide +kernel) rfl rfl (Nat.le_of_ble_eq_true rfl) dX10_init_18 (fun H locs hP hD hS => ?_)
  have hP : va_P E.1 vwCl [(h0, ob 10 [.ref q_145, .int 0, .ref q_146, .null, .null, .null, .null, .int 0]), (q_145, aB E 4096 (fun _ => 0)), (q_146, aJ E 38 (fun _ => 0))] H := hP
  have hD : va_D A [(h0, ob 10 [.ref q_145, .int 0, .ref q_146, .null, .null, .null, .null, .int 0]), (q_145, aB E 4096 (fun _ => 0)), (q_146, aJ E 38 (fun _ => 0))] := hD
  refine lv_aload_n hx hb dX10_init_21 rfl (lv_at hl 0 rfl) ?_
  refine lv_sipush (v := nI 4098) hx hb dX10_init_22 (by decide) ?_
  refine cw_newa (E := E) (atype := .int) (ty := .int) (a0 := (4098, .inl (fun _ => 0))) hx hb (hts _ wdA_int) rfl hK hP hD hS hA 1 rfl rfl (fun _ => rfl) (by decide) (by decide) (by decide) (by decide) (by decide) dX10_init_25 (fun q_147 H hP hD hS => ?_)
  have hP : va_P E.1 vwCl [(h0, ob 10 [.ref q_145, .int 0, .ref q_146, .null, .null, .null, .null, .int 0]), (q_145, aB E 4096 (fun _ => 0)), (q_146, aJ E 38 (fun _ => 0)), (q_147, aI E 4098 (fun _ => 0))] H := hP
  have hD : va_D A [(h0, ob 10 [.ref q_145, .int 0, .ref q_146, .null, .null, .null, .null, .int 0]), (q_145, aB E 4096 (fun _ => 0)), (q_146, aJ E 38 (fun _ => 0)), (q_147, aI E 4098 (fun _ => 0))] := hD
  refine W.widen (k := 3) (n := 8232) (by decide) (by decide) ?_
  refine va_putF (D := E.1) (ci := 10) (v := .ref q_147) (ty := .array .int) (C := RX10) (T := TX10) (N := 8) hx hb hts iX10 tyX10 tyX10_ok nmX10 hown hK hP hD hS 0 rfl rfl 3 (by decide) (hts _ wdF_RX10_19) (fun _ h9 => h9) rfl hin rfl (by decide +kernel) rfl rfl (Nat.le_of_ble_eq_true rfl) dX10_init_27 (fun H locs hP hD hS => ?_)
  have hP : va_P E.1 vwCl [(h0, ob 10 [.ref q_145, .int 0, .ref q_146, .ref q_147, .null, .null, .null, .int 0]), (q_145, aB E 4096 (fun _ => 0)), (q_146, aJ E 38 (fun _ => 0)), (q_147, aI E 4098 (fun _ => 0))] H := hP
  have hD : va_D A [(h0, ob 10 [.ref q_145, .int 0, .ref q_146, .ref q_147, .null, .null, .null, .int 0]), (q_145, aB E 4096 (fun _ => 0)), (q_146, aJ E 38 (fun _ => 0)), (q_147, aI E 4098 (fun _ => 0))] := hD
  refine lv_aload_n hx hb dX10_init_30 rfl (lv_at hl 0 rfl) ?_
  refine lv_sipush (v := nI 4098) hx hb dX10_init_31 (by decide) ?_
  refine cw_newa (E := E) (atype := .int) (ty := .int) (a0 := (4098, .inl (fun _ => 0))) hx hb (hts _ wdA_int) rfl hK hP hD hS hA 1 rfl rfl (fun _ => rfl) (by decide) (by decide) (by decide) (by decide) (by decide) dX10_init_34 (fun q_148 H hP hD hS => ?_)
  have hP : va_P E.1 vwCl [(h0, ob 10 [.ref q_145, .int 0, .ref q_146, .ref q_147, .null, .null, .null, .int 0]), (q_145, aB E 4096 (fun _ => 0)), (q_146, aJ E 38 (fun _ => 0)), (q_147, aI E 4098 (fun _ => 0)), (q_148, aI E 4098 (fun _ => 0))] H := hP
  have hD : va_D A [(h0, ob 10 [.ref q_145, .int 0, .ref q_146, .ref q_147, .null, .null, .null, .int 0]), (q_145, aB E 4096 (fun _ => 0)), (q_146, aJ E 38 (fun _ => 0)), (q_147, aI E 4098 (fun _ => 0)), (q_148, aI E 4098 (fun _ => 0))] := hD
  refine W.widen (k := 4) (n := 12330) (by decide) (by decide) ?_
  refine va_putF (D := E.1) (ci := 10) (v := .ref q_148) (ty := .array .int) (C := RX10) (T := TX10) (N := 8) hx hb hts iX10 tyX10 tyX10_ok nmX10 hown hK hP hD hS 0 rfl rfl 4 (by decide) (hts _ wdF_RX10_23) (fun _ h9 => h9) rfl hin rfl (by decide +kernel) rfl rfl (Nat.le_of_ble_eq_true rfl) dX10_init_36 (fun H locs hP hD hS => ?_)
  have hP : va_P E.1 vwCl [(h0, ob 10 [.ref q_145, .int 0, .ref q_146, .ref q_147, .ref q_148, .null, .null, .int 0]), (q_145, aB E 4096 (fun _ => 0)), (q_146, aJ E 38 (fun _ => 0)), (q_147, aI E 4098 (fun _ => 0)), (q_148, aI E 4098 (fun _ => 0))] H := hP
  have hD : va_D A [(h0, ob 10 [.ref q_145, .int 0, .ref q_146, .ref q_147, .ref q_148, .null, .null, .int 0]), (q_145, aB E 4096 (fun _ => 0)), (q_146, aJ E 38 (fun _ => 0)), (q_147, aI E 4098 (fun _ => 0)), (q_148, aI E 4098 (fun _ => 0))] := hD
  refine lv_aload_n hx hb dX10_init_39 rfl (lv_at hl 0 rfl) ?_
  refine lv_sipush (v := nI 4098) hx hb dX10_init_40 (by decide) ?_
  refine cw_newa (E := E) (atype := .int) (ty := .int) (a0 := (4098, .inl (fun _ => 0))) hx hb (hts _ wdA_int) rfl hK hP hD hS hA 1 rfl rfl (fun _ => rfl) (by decide) (by decide) (by decide) (by decide) (by decide) dX10_init_43 (fun q_149 H hP hD hS => ?_)
  have hP : va_P E.1 vwCl [(h0, ob 10 [.ref q_145, .int 0, .ref q_146, .ref q_147, .ref q_148, .null, .null, .int 0]), (q_145, aB E 4096 (fun _ => 0)), (q_146, aJ E 38 (fun _ => 0)), (q_147, aI E 4098 (fun _ => 0)), (q_148, aI E 4098 (fun _ => 0)), (q_149, aI E 4098 (fun _ => 0))] H := hP
  have hD : va_D A [(h0, ob 10 [.ref q_145, .int 0, .ref q_146, .ref q_147, .ref q_148, .null, .null, .int 0]), (q_145, aB E 4096 (fun _ => 0)), (q_146, aJ E 38 (fun _ => 0)), (q_147, aI E 4098 (fun _ => 0)), (q_148, aI E 4098 (fun _ => 0)), (q_149, aI E 4098 (fun _ => 0))] := hD
  refine W.widen (k := 5) (n := 16428) (by decide) (by decide) ?_
  refine va_putF (D := E.1) (ci := 10) (v := .ref q_149) (ty := .array .int) (C := RX10) (T := TX10) (N := 8) hx hb hts iX10 tyX10 tyX10_ok nmX10 hown hK hP hD hS 0 rfl rfl 5 (by decide) (hts _ wdF_RX10_26) (fun _ h9 => h9) rfl hin rfl (by decide +kernel) rfl rfl (Nat.le_of_ble_eq_true rfl) dX10_init_45 (fun H locs hP hD hS => ?_)
  have hP : va_P E.1 vwCl [(h0, ob 10 [.ref q_145, .int 0, .ref q_146, .ref q_147, .ref q_148, .ref q_149, .null, .int 0]), (q_145, aB E 4096 (fun _ => 0)), (q_146, aJ E 38 (fun _ => 0)), (q_147, aI E 4098 (fun _ => 0)), (q_148, aI E 4098 (fun _ => 0)), (q_149, aI E 4098 (fun _ => 0))] H := hP
  have hD : va_D A [(h0, ob 10 [.ref q_145, .int 0, .ref q_146, .ref q_147, .ref q_148, .ref q_149, .null, .int 0]), (q_145, aB E 4096 (fun _ => 0)), (q_146, aJ E 38 (fun _ => 0)), (q_147, aI E 4098 (fun _ => 0)), (q_148, aI E 4098 (fun _ => 0)), (q_149, aI E 4098 (fun _ => 0))] := hD
  refine lv_aload_n hx hb dX10_init_48 rfl (lv_at hl 0 rfl) ?_
  refine lv_sipush (v := nI 12294) hx hb dX10_init_49 (by decide) ?_
  refine cw_newa (E := E) (atype := .long) (ty := .long) (a0 := (12294, .inr (.inl (fun _ => 0)))) hx hb (hts _ wdA_long) rfl hK hP hD hS hA 2 rfl rfl (fun _ => rfl) (by decide) (by decide) (by decide) (by decide) (by decide) dX10_init_52 (fun q_150 H hP hD hS => ?_)
  have hP : va_P E.1 vwCl [(h0, ob 10 [.ref q_145, .int 0, .ref q_146, .ref q_147, .ref q_148, .ref q_149, .null, .int 0]), (q_145, aB E 4096 (fun _ => 0)), (q_146, aJ E 38 (fun _ => 0)), (q_147, aI E 4098 (fun _ => 0)), (q_148, aI E 4098 (fun _ => 0)), (q_149, aI E 4098 (fun _ => 0)), (q_150, aJ E 12294 (fun _ => 0))] H := hP
  have hD : va_D A [(h0, ob 10 [.ref q_145, .int 0, .ref q_146, .ref q_147, .ref q_148, .ref q_149, .null, .int 0]), (q_145, aB E 4096 (fun _ => 0)), (q_146, aJ E 38 (fun _ => 0)), (q_147, aI E 4098 (fun _ => 0)), (q_148, aI E 4098 (fun _ => 0)), (q_149, aI E 4098 (fun _ => 0)), (q_150, aJ E 12294 (fun _ => 0))] := hD
  refine W.widen (k := 6) (n := 28722) (by decide) (by decide) ?_
  refine va_putF (D := E.1) (ci := 10) (v := .ref q_150) (ty := .array .long) (C := RX10) (T := TX10) (N := 8) hx hb hts iX10 tyX10 tyX10_ok nmX10 hown hK hP hD hS 0 rfl rfl 6 (by decide) (hts _ wdF_RX10_29) (fun _ h9 => h9) rfl hin rfl (by decide +kernel) rfl rfl (Nat.le_of_ble_eq_true rfl) dX10_init_54 (fun H locs hP hD hS => ?_)
  have hP : va_P E.1 vwCl [(h0, ob 10 [.ref q_145, .int 0, .ref q_146, .ref q_147, .ref q_148, .ref q_149, .ref q_150, .int 0]), (q_145, aB E 4096 (fun _ => 0)), (q_146, aJ E 38 (fun _ => 0)), (q_147, aI E 4098 (fun _ => 0)), (q_148, aI E 4098 (fun _ => 0)), (q_149, aI E 4098 (fun _ => 0)), (q_150, aJ E 12294 (fun _ => 0))] H := hP
  have hD : va_D A [(h0, ob 10 [.ref q_145, .int 0, .ref q_146, .ref q_147, .ref q_148, .ref q_149, .ref q_150, .int 0]), (q_145, aB E 4096 (fun _ => 0)), (q_146, aJ E 38 (fun _ => 0)), (q_147, aI E 4098 (fun _ => 0)), (q_148, aI E 4098 (fun _ => 0)), (q_149, aI E 4098 (fun _ => 0)), (q_150, aJ E 12294 (fun _ => 0))] := hD
  refine lv_iconst (v := nI 0) hx hb dX10_init_57 (by decide) ?_
  refine lv_istore_n (lv' := [(1, .int (nI 0)), (0, .ref h0)]) hx hb dX10_init_58 rfl hl (by decide) rfl (fun ls hl => ?_)
  refine lv_iconst (v := nI 0) hx hb dX10_init_59 (by decide) ?_
  refine lv_istore_n (lv' := [(2, .int (nI 0)), (1, .int (nI 0)), (0, .ref h0)]) hx hb dX10_init_60 rfl hl (by decide) rfl (fun ls hl => ?_)
  have lo : ∀ (n_lo : Nat) (i : Nat) (hn : 183 ≤ i + n_lo) (hi : i ≤ 182) (H : Heap) (locs : List Loc) (ls : Array Slot), va_P E.1 vwCl [(h0, ob 10 [.ref q_145, .int 0, .ref q_146, .ref q_147, .ref q_148, .ref q_149, .ref q_150, .int 0]), (q_145, aB E 4096 (fun _ => 0)), (q_146, aJ E 38 (kwG i)), (q_147, aI E 4098 (fun _ => 0)), (q_148, aI E 4098 (fun _ => 0)), (q_149, aI E 4098 (fun _ => 0)), (q_150, aJ E 12294 (fun _ => 0))] H → va_D A [(h0, ob 10 [.ref q_145, .int 0, .ref q_146, .ref q_147, .ref q_148, .ref q_149, .ref q_150, .int 0]), (q_145, aB E 4096 (fun _ => 0)), (q_146, aJ E 38 (kwG i)), (q_147, aI E 4098 (fun _ => 0)), (q_148, aI E 4098 (fun _ => 0)), (q_149, aI E 4098 (fun _ => 0)), (q_150, aJ E 12294 (fun _ => 0))] → va_S A s.heap H locs → lv_has ls 5 [(0, .ref h0), (1, .int (nI (kwW i))), (2, .int (nI i))] → W p l e rm_c_X10_init s m ([.ref h0] : List Value).toArray below meth c H locs 6 28722 (MQ below ((qV E (fun (u : Nat × Nat × Nat × Nat × Nat × Nat) => match u with | (q_145, q_146, q_147, q_148, q_149, q_150) => True) (fun (u : Nat × Nat × Nat × Nat × Nat × Nat) => match u with | (q_145, q_146, q_147, q_148, q_149, q_150) => [(h0, ob 10 [.ref q_145, .int 0, .ref q_146, .ref q_147, .ref q_148, .ref q_149, .ref q_150, .int 0]), (q_145, aB E 4096 (fun _ => 0)), (q_146, aJ E 38 (kwG 182)), (q_147, aI E 4098 (fun _ => 0)), (q_148, aI E 4098 (fun _ => 0)), (q_149, aI E 4098 (fun _ => 0)), (q_150, aJ E 12294 (fun _ => 0))])) A) ([.ref h0] : List Value).toArray s (rm_c_X10_init).cells (rm_c_X10_init).slots A) (F0 m 61 ls []) := by
    intro n_lo
    induction n_lo with
    | zero =>
      intro i hn hi
      exfalso; omega
    | succ n_lo ih_lo =>
      intro i hn hi H locs ls hP hD hS hl
      refine lv_iload_n hx hb dX10_init_61 rfl (lv_at hl 2 rfl) ?_
      refine va_ldcS hx hb hown hStr.1.1 dX10_init_62 ?_
      refine cI_go (wr := [(h0, ob 10 [.ref q_145, .int 0, .ref q_146, .ref q_147, .ref q_148, .ref q_149, .ref q_150, .int 0]), (q_145, aB E 4096 (fun _ => 0)), (q_146, aJ E 38 (kwG i)), (q_147, aI E 4098 (fun _ => 0)), (q_148, aI E 4098 (fun _ => 0)), (q_149, aI E 4098 (fun _ => 0)), (q_150, aJ E 12294 (fun _ => 0))]) (cM_runVS (As := []) (rest := [.int (nI i)]) F (c_J0_length_8abf5 l E) yy_J0_length_8abf5 yi_J0_length_8abf5 wdM_RX10_34 hP hD hS hK hZ hA [] rfl rfl hStr.2.1.1 rfl hl.1 rfl (Nat.le_of_ble_eq_true rfl) dX10_init_64 ⟨by decide, by decide⟩ ⟨by decide, by decide⟩) hP hD hS hA [] [0, 1, 2, 3, 4, 5, 6] rfl rfl rfl (by decide) (fun r_153 u_152 H locs hw_151 hP hD hS => ?_)
      try dsimp only at hw_151
      have hP : va_P E.1 vwCl [(h0, ob 10 [.ref q_145, .int 0, .ref q_146, .ref q_147, .ref q_148, .ref q_149, .ref q_150, .int 0]), (q_145, aB E 4096 (fun _ => 0)), (q_146, aJ E 38 (kwG i)), (q_147, aI E 4098 (fun _ => 0)), (q_148, aI E 4098 (fun _ => 0)), (q_149, aI E 4098 (fun _ => 0)), (q_150, aJ E 12294 (fun _ => 0))] H := hP
      have hD : va_D A [(h0, ob 10 [.ref q_145, .int 0, .ref q_146, .ref q_147, .ref q_148, .ref q_149, .ref q_150, .int 0]), (q_145, aB E 4096 (fun _ => 0)), (q_146, aJ E 38 (kwG i)), (q_147, aI E 4098 (fun _ => 0)), (q_148, aI E 4098 (fun _ => 0)), (q_149, aI E 4098 (fun _ => 0)), (q_150, aJ E 12294 (fun _ => 0))] := hD
      subst hw_151
      refine lv_icmp_ge (tgt := 160) hx hb dX10_init_67 (by decide) (fun c1 => ?_) (fun c1 => ?_)
      · have c2 : 182 ≤ i := (nI_leI (by decide) (by omega)).mp c1
        obtain rfl : i = 182 := by omega
        exact cV_ret F hP hD hS hK (q_145, q_146, q_147, q_148, q_149, q_150) trivial [0, 1, 2, 3, 4, 5, 6] rfl rfl dX10_init_160 (by decide) (by decide)
      · have c2 : i < 182 := Nat.lt_of_not_le (fun h => c1 (nI_le h (by omega)))
        have hw9 := kwW_lt i c2
        refine lv_iload_n hx hb dX10_init_70 rfl (lv_at hl 1 rfl) ?_
        refine lv_bipush (v := nI 38) hx hb dX10_init_71 (by decide) ?_
        refine lv_icmp_ge (tgt := 160) hx hb dX10_init_73 (by decide) (fun c_154 => absurd c_154 (fun h => absurd ((nI_leI (by decide) (by omega)).mp h) (by omega))) (fun c_154 => ?_)
        refine va_ldcS hx hb hown hStr.1.1 dX10_init_76 ?_
        refine lv_iload_n hx hb dX10_init_78 rfl (lv_at hl 2 rfl) ?_
        refine cI_go (wr := [(h0, ob 10 [.ref q_145, .int 0, .ref q_146, .ref q_147, .ref q_148, .ref q_149, .ref q_150, .int 0]), (q_145, aB E 4096 (fun _ => 0)), (q_146, aJ E 38 (kwG i)), (q_147, aI E 4098 (fun _ => 0)), (q_148, aI E 4098 (fun _ => 0)), (q_149, aI E 4098 (fun _ => 0)), (q_150, aJ E 12294 (fun _ => 0))]) (cM_runVS (As := [.int (nI i)]) (rest := []) F (c_J0_charAt_5068e l E i c2) yy_J0_charAt_5068e yi_J0_charAt_5068e wdM_RX10_40 hP hD hS hK hZ hA [] rfl rfl hStr.2.1.1 rfl hl.1 rfl (Nat.le_of_ble_eq_true rfl) dX10_init_79 ⟨by decide, by decide⟩ ⟨by decide, by decide⟩) hP hD hS hA [] [0, 1, 2, 3, 4, 5, 6] rfl rfl rfl (by decide) (fun r_157 u_156 H locs hw_155 hP hD hS => ?_)
        try dsimp only at hw_155
        have hP : va_P E.1 vwCl [(h0, ob 10 [.ref q_145, .int 0, .ref q_146, .ref q_147, .ref q_148, .ref q_149, .ref q_150, .int 0]), (q_145, aB E 4096 (fun _ => 0)), (q_146, aJ E 38 (kwG i)), (q_147, aI E 4098 (fun _ => 0)), (q_148, aI E 4098 (fun _ => 0)), (q_149, aI E 4098 (fun _ => 0)), (q_150, aJ E 12294 (fun _ => 0))] H := hP
        have hD : va_D A [(h0, ob 10 [.ref q_145, .int 0, .ref q_146, .ref q_147, .ref q_148, .ref q_149, .ref q_150, .int 0]), (q_145, aB E 4096 (fun _ => 0)), (q_146, aJ E 38 (kwG i)), (q_147, aI E 4098 (fun _ => 0)), (q_148, aI E 4098 (fun _ => 0)), (q_149, aI E 4098 (fun _ => 0)), (q_150, aJ E 12294 (fun _ => 0))] := hD
        have hw_155 : r_157 = kwC i := hw_155
        subst hw_155
        refine lv_istore_n (lv' := [(3, .int (kwC i)), (0, .ref h0), (1, .int (nI (kwW i))), (2, .int (nI i))]) hx hb dX10_init_82 rfl hl (by decide) rfl (fun ls hl => ?_)
        refine lv_iload_n hx hb dX10_init_83 rfl (lv_at hl 0 rfl) ?_
        refine lv_bipush (v := nI 32) hx hb dX10_init_84 (by decide) ?_
        refine lv_icmp_ne (tgt := 136) hx hb dX10_init_86 (by decide) (fun c3 => ?_) (fun c3 => ?_)
        · refine lv_aload_n hx hb dX10_init_136 rfl (lv_at hl 1 rfl) ?_
          refine va_get (D := E.1) (ci := 10) (v := .ref q_146) (C := RX10) (T := TX10) (N := 8) hx hb hts iX10 hown hK hP 0 rfl rfl 2 (by decide) (hts _ wdF_RX10_15) (fun _ h9 => h9) rfl dX10_init_137 ?_
          refine lv_iload_n hx hb dX10_init_140 rfl (lv_at hl 2 rfl) ?_
          refine lv_aload_n hx hb dX10_init_141 rfl (lv_at hl 1 rfl) ?_
          refine va_get (D := E.1) (ci := 10) (v := .ref q_146) (C := RX10) (T := TX10) (N := 8) hx hb hts iX10 hown hK hP 0 rfl rfl 2 (by decide) (hts _ wdF_RX10_15) (fun _ h9 => h9) rfl dX10_init_142 ?_
          refine lv_iload_n hx hb dX10_init_145 rfl (lv_at hl 2 rfl) ?_
          refine va_lald hx hb hK hP 2 2 rfl rfl (vp_in_nI hw9 (by decide)) dX10_init_146 ?_
          rw [nI_clamp (n := (kwW i)) (by omega)]
          refine lv_bipush (v := nI 8) hx hb dX10_init_147 (by decide) ?_
          refine lv_lshl hx hb dX10_init_149 rfl ?_
          refine lv_iload_n hx hb dX10_init_150 rfl (lv_at hl 0 rfl) ?_
          refine lv_i2l hx hb dX10_init_151 rfl ?_
          refine lv_lor hx hb dX10_init_152 ?_
          refine va_last hx hb hK hP hD hS 2 2 rfl rfl (vp_in_nI hw9 (by decide)) dX10_init_153 (fun H locs hP hD hS => ?_)
          have hP : va_P E.1 vwCl [(h0, ob 10 [.ref q_145, .int 0, .ref q_146, .ref q_147, .ref q_148, .ref q_149, .ref q_150, .int 0]), (q_145, aB E 4096 (fun _ => 0)), (q_146, aJ E 38 (vp_updL (kwG i) (nI (kwW i)).toNatClampNeg ((((kwG i) (kwW i)) <<< ((nI 8).toInt64 &&& 63)) ||| ((kwC i).toInt64)))), (q_147, aI E 4098 (fun _ => 0)), (q_148, aI E 4098 (fun _ => 0)), (q_149, aI E 4098 (fun _ => 0)), (q_150, aJ E 12294 (fun _ => 0))] H := hP
          have hD : va_D A [(h0, ob 10 [.ref q_145, .int 0, .ref q_146, .ref q_147, .ref q_148, .ref q_149, .ref q_150, .int 0]), (q_145, aB E 4096 (fun _ => 0)), (q_146, aJ E 38 (vp_updL (kwG i) (nI (kwW i)).toNatClampNeg ((((kwG i) (kwW i)) <<< ((nI 8).toInt64 &&& 63)) ||| ((kwC i).toInt64)))), (q_147, aI E 4098 (fun _ => 0)), (q_148, aI E 4098 (fun _ => 0)), (q_149, aI E 4098 (fun _ => 0)), (q_150, aJ E 12294 (fun _ => 0))] := hD
          rw [nI_clamp (n := (kwW i)) (by omega)] at hP hD
          rw [show vp_updL (kwG i) (kwW i) ((((kwG i) (kwW i)) <<< ((nI 8).toInt64 &&& 63)) ||| ((kwC i).toInt64)) = kwG (i + 1) from (if_neg c3).symm] at hP hD
          have hl : lv_has ls 5 [(3, .int (kwC i)), (0, .ref h0), (1, .int (nI (kwW (i + 1)))), (2, .int (nI i))] := by rw [show kwW (i + 1) = kwW i from if_neg c3]; exact hl
          refine lv_iinc (v := nI (i + 1)) (lv' := [(2, .int (nI (i + 1))), (3, .int (kwC i)), (0, .ref h0), (1, .int (nI (kwW (i + 1))))]) hx hb dX10_init_154 hl (k := 3) rfl (nI_1 i) (by decide) rfl (fun ls hl => ?_)
          refine lv_goto (tgt := 61) hx hb dX10_init_157 (by decide) ?_
          exact ih_lo (i + 1) (by omega) (by omega) _ _ _ hP hD hS (lv_sub hl [2, 3, 0] rfl)
        · refine lv_iconst (v := nI 0) hx hb dX10_init_89 (by decide) ?_
          refine lv_istore (lv' := [(4, .int (nI 0)), (3, .int (kwC i)), (0, .ref h0), (1, .int (nI (kwW i))), (2, .int (nI i))]) hx hb dX10_init_90 hl (by decide) rfl (fun ls hl => ?_)
          obtain ⟨hP, hD⟩ := cw_extJ (g := (vp_updL (kwG i) (kwW i) (kwG i (kwW i)))) hP hD 2 rfl (fun j _ => updL_self (kwG i) (kwW i) j)
          have hP : va_P E.1 vwCl [(h0, ob 10 [.ref q_145, .int 0, .ref q_146, .ref q_147, .ref q_148, .ref q_149, .ref q_150, .int 0]), (q_145, aB E 4096 (fun _ => 0)), (q_146, aJ E 38 (vp_updL (kwG i) (kwW i) (kwG i (kwW i)))), (q_147, aI E 4098 (fun _ => 0)), (q_148, aI E 4098 (fun _ => 0)), (q_149, aI E 4098 (fun _ => 0)), (q_150, aJ E 12294 (fun _ => 0))] H := hP
          have hD : va_D A [(h0, ob 10 [.ref q_145, .int 0, .ref q_146, .ref q_147, .ref q_148, .ref q_149, .ref q_150, .int 0]), (q_145, aB E 4096 (fun _ => 0)), (q_146, aJ E 38 (vp_updL (kwG i) (kwW i) (kwG i (kwW i)))), (q_147, aI E 4098 (fun _ => 0)), (q_148, aI E 4098 (fun _ => 0)), (q_149, aI E 4098 (fun _ => 0)), (q_150, aJ E 12294 (fun _ => 0))] := hD
          have li : ∀ (n_li : Nat) (j : Nat) (x : Int64) (hn2 : 9 ≤ j + n_li) (hj : j ≤ 8) (hx9 : kwSh x (8 - j) = kwSh (kwG i (kwW i)) 8) (H : Heap) (locs : List Loc) (ls : Array Slot), va_P E.1 vwCl [(h0, ob 10 [.ref q_145, .int 0, .ref q_146, .ref q_147, .ref q_148, .ref q_149, .ref q_150, .int 0]), (q_145, aB E 4096 (fun _ => 0)), (q_146, aJ E 38 (vp_updL (kwG i) (kwW i) x)), (q_147, aI E 4098 (fun _ => 0)), (q_148, aI E 4098 (fun _ => 0)), (q_149, aI E 4098 (fun _ => 0)), (q_150, aJ E 12294 (fun _ => 0))] H → va_D A [(h0, ob 10 [.ref q_145, .int 0, .ref q_146, .ref q_147, .ref q_148, .ref q_149, .ref q_150, .int 0]), (q_145, aB E 4096 (fun _ => 0)), (q_146, aJ E 38 (vp_updL (kwG i) (kwW i) x)), (q_147, aI E 4098 (fun _ => 0)), (q_148, aI E 4098 (fun _ => 0)), (q_149, aI E 4098 (fun _ => 0)), (q_150, aJ E 12294 (fun _ => 0))] → va_S A s.heap H locs → lv_has ls 5 [(0, .ref h0), (1, .int (nI (kwW i))), (2, .int (nI i)), (3, .int (kwC i)), (4, .int (nI j))] → W p l e rm_c_X10_init s m ([.ref h0] : List Value).toArray below meth c H locs 6 28722 (MQ below ((qV E (fun (u : Nat × Nat × Nat × Nat × Nat × Nat) => match u with | (q_145, q_146, q_147, q_148, q_149, q_150) => True) (fun (u : Nat × Nat × Nat × Nat × Nat × Nat) => match u with | (q_145, q_146, q_147, q_148, q_149, q_150) => [(h0, ob 10 [.ref q_145, .int 0, .ref q_146, .ref q_147, .ref q_148, .ref q_149, .ref q_150, .int 0]), (q_145, aB E 4096 (fun _ => 0)), (q_146, aJ E 38 (kwG 182)), (q_147, aI E 4098 (fun _ => 0)), (q_148, aI E 4098 (fun _ => 0)), (q_149, aI E 4098 (fun _ => 0)), (q_150, aJ E 12294 (fun _ => 0))])) A) ([.ref h0] : List Value).toArray s (rm_c_X10_init).cells (rm_c_X10_init).slots A) (F0 m 92 ls []) := by
            intro n_li
            induction n_li with
            | zero =>
              intro j x hn2 hj hx9
              exfalso; omega
            | succ n_li ih_li =>
              intro j x hn2 hj hx9 H locs ls hP hD hS hl
              refine lv_iload hx hb dX10_init_92 (lv_at hl 4 rfl) ?_
              refine lv_bipush (v := nI 8) hx hb dX10_init_94 (by decide) ?_
              refine lv_icmp_ge (tgt := 130) hx hb dX10_init_96 (by decide) (fun c4 => ?_) (fun c4 => ?_)
              · have c5 : 8 ≤ j := (nI_leI (by decide) (by omega)).mp c4
                have hx8 : x = kwSh (kwG i (kwW i)) 8 := by rw [← hx9, show 8 - j = 0 by omega]; rfl
                rw [show vp_updL (kwG i) (kwW i) x = kwG (i + 1) from by rw [hx8]; exact (if_pos c3).symm] at hP hD
                refine lv_iinc (v := nI ((kwW i) + 1)) (lv' := [(1, .int (nI ((kwW i) + 1))), (0, .ref h0), (2, .int (nI i)), (3, .int (kwC i)), (4, .int (nI j))]) hx hb dX10_init_130 hl (k := 1) rfl (nI_1 (kwW i)) (by decide) rfl (fun ls hl => ?_)
                refine lv_goto (tgt := 154) hx hb dX10_init_133 (by decide) ?_
                have hl : lv_has ls 5 [(1, .int (nI (kwW (i + 1)))), (0, .ref h0), (2, .int (nI i)), (3, .int (kwC i)), (4, .int (nI j))] := by rw [show kwW (i + 1) = kwW i + 1 from if_pos c3]; exact hl
                refine lv_iinc (v := nI (i + 1)) (lv' := [(2, .int (nI (i + 1))), (1, .int (nI (kwW (i + 1)))), (0, .ref h0), (3, .int (kwC i)), (4, .int (nI j))]) hx hb dX10_init_154 hl (k := 2) rfl (nI_1 i) (by decide) rfl (fun ls hl => ?_)
                refine lv_goto (tgt := 61) hx hb dX10_init_157 (by decide) ?_
                exact ih_lo (i + 1) (by omega) (by omega) _ _ _ hP hD hS (lv_sub hl [2, 1, 0] rfl)
              · have c5 : j < 8 := Nat.lt_of_not_le (fun h => c4 (nI_le h (by omega)))
                obtain ⟨j9, hj9⟩ : ∃ j9, 8 - j = j9 + 1 := ⟨7 - j, by omega⟩
                rw [hj9] at hx9
                refine lv_aload_n hx hb dX10_init_99 rfl (lv_at hl 0 rfl) ?_
                refine va_get (D := E.1) (ci := 10) (v := .ref q_146) (C := RX10) (T := TX10) (N := 8) hx hb hts iX10 hown hK hP 0 rfl rfl 2 (by decide) (hts _ wdF_RX10_15) (fun _ h9 => h9) rfl dX10_init_100 ?_
                refine lv_iload_n hx hb dX10_init_103 rfl (lv_at hl 1 rfl) ?_
                refine va_lald hx hb hK hP 2 2 rfl rfl (vp_in_nI hw9 (by decide)) dX10_init_104 ?_
                rw [nI_clamp (n := (kwW i)) (by omega)]
                rw [show ((vp_updL (kwG i) (kwW i) x) (kwW i) : Int64) = x from pk_uLs]
                refine lv_bipush (v := nI 56) hx hb dX10_init_105 (by decide) ?_
                refine lv_lushr hx hb dX10_init_107 rfl ?_
                refine lv_lconst (v := 0) hx hb dX10_init_108 (by decide) ?_
                refine W.lcmp hx hb dX10_init_109 ?_
                refine lv_if_ne (tgt := 130) hx hb dX10_init_110 (by decide) (fun c6 => ?_) (fun c6 => ?_)
                · have c7 : ¬ (x.toUInt64 >>> ((nI 56).toInt64.toUInt64 &&& Int64.toUInt64 63)).toInt64 = 0 := fun h => c6 ((lg_cmp_eq _ _).mpr h)
                  have hx8 : x = kwSh (kwG i (kwW i)) 8 := by rw [← hx9]; show x = (if _ then _ else x); rw [if_neg c7]
                  rw [show vp_updL (kwG i) (kwW i) x = kwG (i + 1) from by rw [hx8]; exact (if_pos c3).symm] at hP hD
                  refine lv_iinc (v := nI ((kwW i) + 1)) (lv' := [(1, .int (nI ((kwW i) + 1))), (0, .ref h0), (2, .int (nI i)), (3, .int (kwC i)), (4, .int (nI j))]) hx hb dX10_init_130 hl (k := 1) rfl (nI_1 (kwW i)) (by decide) rfl (fun ls hl => ?_)
                  refine lv_goto (tgt := 154) hx hb dX10_init_133 (by decide) ?_
                  have hl : lv_has ls 5 [(1, .int (nI (kwW (i + 1)))), (0, .ref h0), (2, .int (nI i)), (3, .int (kwC i)), (4, .int (nI j))] := by rw [show kwW (i + 1) = kwW i + 1 from if_pos c3]; exact hl
                  refine lv_iinc (v := nI (i + 1)) (lv' := [(2, .int (nI (i + 1))), (1, .int (nI (kwW (i + 1)))), (0, .ref h0), (3, .int (kwC i)), (4, .int (nI j))]) hx hb dX10_init_154 hl (k := 2) rfl (nI_1 i) (by decide) rfl (fun ls hl => ?_)
                  refine lv_goto (tgt := 61) hx hb dX10_init_157 (by decide) ?_
                  exact ih_lo (i + 1) (by omega) (by omega) _ _ _ hP hD hS (lv_sub hl [2, 1, 0] rfl)
                · have c7 : (x.toUInt64 >>> ((nI 56).toInt64.toUInt64 &&& Int64.toUInt64 63)).toInt64 = 0 := (lg_cmp_eq _ _).mp c6
                  refine lv_aload_n hx hb dX10_init_113 rfl (lv_at hl 0 rfl) ?_
                  refine va_get (D := E.1) (ci := 10) (v := .ref q_146) (C := RX10) (T := TX10) (N := 8) hx hb hts iX10 hown hK hP 0 rfl rfl 2 (by decide) (hts _ wdF_RX10_15) (fun _ h9 => h9) rfl dX10_init_114 ?_
                  refine lv_iload_n hx hb dX10_init_117 rfl (lv_at hl 1 rfl) ?_
                  refine lv_dup2_11 hx hb dX10_init_118 rfl rfl ?_
                  refine va_lald hx hb hK hP 2 2 rfl rfl (vp_in_nI hw9 (by decide)) dX10_init_119 ?_
                  rw [nI_clamp (n := (kwW i)) (by omega)]
                  rw [show ((vp_updL (kwG i) (kwW i) x) (kwW i) : Int64) = x from pk_uLs]
                  refine lv_bipush (v := nI 8) hx hb dX10_init_120 (by decide) ?_
                  refine lv_lshl hx hb dX10_init_122 rfl ?_
                  refine va_last hx hb hK hP hD hS 2 2 rfl rfl (vp_in_nI hw9 (by decide)) dX10_init_123 (fun H locs hP hD hS => ?_)
                  have hP : va_P E.1 vwCl [(h0, ob 10 [.ref q_145, .int 0, .ref q_146, .ref q_147, .ref q_148, .ref q_149, .ref q_150, .int 0]), (q_145, aB E 4096 (fun _ => 0)), (q_146, aJ E 38 (vp_updL (vp_updL (kwG i) (kwW i) x) (nI (kwW i)).toNatClampNeg (x <<< ((nI 8).toInt64 &&& 63)))), (q_147, aI E 4098 (fun _ => 0)), (q_148, aI E 4098 (fun _ => 0)), (q_149, aI E 4098 (fun _ => 0)), (q_150, aJ E 12294 (fun _ => 0))] H := hP
                  have hD : va_D A [(h0, ob 10 [.ref q_145, .int 0, .ref q_146, .ref q_147, .ref q_148, .ref q_149, .ref q_150, .int 0]), (q_145, aB E 4096 (fun _ => 0)), (q_146, aJ E 38 (vp_updL (vp_updL (kwG i) (kwW i) x) (nI (kwW i)).toNatClampNeg (x <<< ((nI 8).toInt64 &&& 63)))), (q_147, aI E 4098 (fun _ => 0)), (q_148, aI E 4098 (fun _ => 0)), (q_149, aI E 4098 (fun _ => 0)), (q_150, aJ E 12294 (fun _ => 0))] := hD
                  rw [nI_clamp (n := (kwW i)) (by omega)] at hP hD
                  rw [updL_updL] at hP hD
                  refine lv_iinc (v := nI (j + 1)) (lv' := [(4, .int (nI (j + 1))), (0, .ref h0), (1, .int (nI (kwW i))), (2, .int (nI i)), (3, .int (kwC i))]) hx hb dX10_init_124 hl (k := 4) rfl (nI_1 j) (by decide) rfl (fun ls hl => ?_)
                  refine lv_goto (tgt := 92) hx hb dX10_init_127 (by decide) ?_
                  exact ih_li (j + 1) (x <<< ((nI 8).toInt64 &&& 63)) (by omega) (by omega) (by rw [← hx9, show 8 - (j + 1) = j9 by omega]; show _ = (if _ then _ else x); rw [if_pos c7]) _ _ _ hP hD hS (lv_sub hl [1, 2, 3, 4, 0] rfl)
          exact li 9 0 (kwG i (kwW i)) (by omega) (by omega) rfl _ _ _ hP hD hS (lv_sub hl [2, 3, 4, 1, 0] rfl)
  exact lo 183 0 (by omega) (by omega) _ _ _ hP hD hS (lv_sub hl [2, 1, 0] rfl)
theorem yy_X10_init : cY yX10_init cX10_init 5 none 0 := ⟨wdK_X10_init, wdZ_RX10, by decide +kernel⟩
