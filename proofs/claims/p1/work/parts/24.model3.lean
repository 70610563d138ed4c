theorem dX12_fault_0 : decode cX12_fault 0 = .ok (.aload_n 0, 1) := by decide +kernel
theorem dX12_fault_1 : decode cX12_fault 1 = .ok (.getfield 308, 3) := by decide +kernel
theorem dX12_fault_4 : decode cX12_fault 4 = .ok (.ireturn, 1) := by decide +kernel
abbrev rm_p_X12_fault : Room := { frames := 0, cells := 0, slots := 0, locals := 0 }
set_option maxHeartbeats 4000000 in
set_option maxRecDepth 100000 in
theorem p_X12_fault (l : Launch) (E : cE) (h0 : Nat) (r : Nat → Nat) (g : Nat → Value) (gx : Nat → Int32) (gy : Nat → Int32) (gw : Nat → Int32) (gt : Nat → Int32) (fx : Nat → Int32) (fy : Nat → Int32) (fw : Nat → Int32) (bx : Nat → Int32) (by_ : Nat → Int32) (bw : Nat → Int32) (hR : mOK r g) (hI : ∀ k, k < 116 → mRef k = false → g k = mI k) (hm1 : flo (stC 0) (2 * 4) gx gy gw) (hm2 : ∀ d, d < 2 * 4 → gt d = 0) (hm3 : ∀ d, d < 2 * 4 → fx d = gx d ∧ fy d = gy d ∧ fw d = gw d) (hm4 : ∀ d, d < 2 * 4 → bx d = gx d ∧ by_ d = gy d ∧ bw d = gw d) : cM l E yX12_fault cX12_fault 1 (some .int) rm_p_X12_fault [.ref h0] [(h0, ob 12 (mfs g))] (qI E (fun (r : Int32) (_u : Unit) => r = 0) (fun _ => [])) := by
  refine cM_of (by decide) (Nat.le_of_ble_eq_true rfl) ?_
  intro p e s m below meth c ls A F hA hS hP hD hK hZ hl
  obtain ⟨hx, hb, hr, hml, hown, hts, hlk, hin⟩ := id F
  have hown : s.vm.findClass RX12 = some m.cls := hown
  have hl : lv_has ls 1 [(0, .ref h0)] := hl
  refine lv_aload_n hx hb dX12_fault_0 rfl (lv_at hl 0 rfl) ?_
  refine va_get (D := E.1) (ci := 12) (v := .int 0) (C := RX12) (T := TX12) (N := 116) hx hb hts iX12 hown hK hP 0 rfl rfl 8 (by decide) (hts _ wdF_RX12_308) (fun _ h9 => h9) ((mfs_get _ 8 (by decide)).trans (congrArg some (show (g) 8 = .int 0 from (hI 8 (by decide) rfl)))) dX12_fault_1 ?_
  exact cI_ret F hP hD hS hK () rfl [] rfl rfl dX12_fault_4 (by decide) (by decide)
theorem yy_X12_fault : cY yX12_fault cX12_fault 1 (some .int) 0 := ⟨wdK_X12_fault, wdZ_RX12, by decide +kernel⟩
theorem yi_X12_fault : cYi yX12_fault := ⟨wdN_X12_fault, wdS_X12_fault⟩
theorem dX12_byteAt_0 : decode cX12_byteAt 0 = .ok (.iload_n 1, 1) := by decide +kernel
theorem dX12_byteAt_1 : decode cX12_byteAt 1 = .ok (.aload_n 0, 1) := by decide +kernel
theorem dX12_byteAt_2 : decode cX12_byteAt 2 = .ok (.getfield 261, 3) := by decide +kernel
theorem dX12_byteAt_5 : decode cX12_byteAt 5 = .ok (.if_icmp .ge 16, 3) := by decide +kernel
theorem dX12_byteAt_8 : decode cX12_byteAt 8 = .ok (.aload_n 0, 1) := by decide +kernel
theorem dX12_byteAt_9 : decode cX12_byteAt 9 = .ok (.getfield 7, 3) := by decide +kernel
theorem dX12_byteAt_12 : decode cX12_byteAt 12 = .ok (.iload_n 1, 1) := by decide +kernel
theorem dX12_byteAt_13 : decode cX12_byteAt 13 = .ok (.baload, 1) := by decide +kernel
theorem dX12_byteAt_14 : decode cX12_byteAt 14 = .ok (.sipush 255, 3) := by decide +kernel
theorem dX12_byteAt_17 : decode cX12_byteAt 17 = .ok (.iand, 1) := by decide +kernel
theorem dX12_byteAt_18 : decode cX12_byteAt 18 = .ok (.goto 4, 3) := by decide +kernel
theorem dX12_byteAt_21 : decode cX12_byteAt 21 = .ok (.iconst (-1), 1) := by decide +kernel
theorem dX12_byteAt_22 : decode cX12_byteAt 22 = .ok (.ireturn, 1) := by decide +kernel
abbrev rm_z5_X12_byteAt : Room := { frames := 0, cells := 0, slots := 0, locals := 0 }
set_option maxHeartbeats 4000000 in
set_option maxRecDepth 100000 in
theorem z5_X12_byteAt (l : Launch) (E : cE) (h0 : Nat) (r : Nat → Nat) (g : Nat → Value) (gx : Nat → Int32) (gy : Nat → Int32) (gw : Nat → Int32) (gt : Nat → Int32) (fx : Nat → Int32) (fy : Nat → Int32) (fw : Nat → Int32) (bx : Nat → Int32) (by_ : Nat → Int32) (bw : Nat → Int32) (hR : mOK r g) (hI : ∀ k, k < 116 → mRef k = false → g k = mI k) (hm1 : flo (stC 0) (2 * 4) gx gy gw) (hm2 : ∀ d, d < 2 * 4 → gt d = 0) (hm3 : ∀ d, d < 2 * 4 → fx d = gx d ∧ fy d = gy d ∧ fw d = gw d) (hm4 : ∀ d, d < 2 * 4 → bx d = gx d ∧ by_ d = gy d ∧ bw d = gw d) : cM l E yX12_byteAt cX12_byteAt 2 (some .int) rm_z5_X12_byteAt [.ref h0, .int (nI 0)] [(h0, ob 12 (mfs (updG (updG (updG (updG (updG (updG (updG g 7 (.int 0)) 1 (.int (nI 0))) 2 (.int (nI 0))) 8 (.int (nI 0))) 35 (.int (nI 0))) 36 (.int (nI 0))) 34 (.int (nI 0))))), ((r 0), aB E 4096 (fun _ => 0))] (qI E (fun (r : Int32) (_u : Unit) => r = (-1)) (fun _ => [(h0, ob 12 (mfs (updG (updG (updG (updG (updG (updG (updG g 7 (.int 0)) 1 (.int (nI 0))) 2 (.int (nI 0))) 8 (.int (nI 0))) 35 (.int (nI 0))) 36 (.int (nI 0))) 34 (.int (nI 0))))), ((r 0), aB E 4096 (fun _ => 0))])) := by
  refine cM_of (by decide) (Nat.le_of_ble_eq_true rfl) ?_
  intro p e s m below meth c ls A F hA hS hP hD hK hZ hl
  obtain ⟨hx, hb, hr, hml, hown, hts, hlk, hin⟩ := id F
  have hown : s.vm.findClass RX12 = some m.cls := hown
  have hl : lv_has ls 2 [(0, .ref h0), (1, .int (nI 0))] := hl
  refine lv_iload_n hx hb dX12_byteAt_0 rfl (lv_at hl 1 rfl) ?_
  refine lv_aload_n hx hb dX12_byteAt_1 rfl (lv_at hl 0 rfl) ?_
  refine va_get (D := E.1) (ci := 12) (v := .int 0) (C := RX12) (T := TX12) (N := 116) hx hb hts iX12 hown hK hP 0 rfl rfl 7 (by decide) (hts _ wdF_RX12_261) (fun _ h9 => h9) ((mfs_get _ 7 (by decide)).trans (congrArg some (show (updG (updG (updG (updG (updG (updG (updG g 7 (.int 0)) 1 (.int (nI 0))) 2 (.int (nI 0))) 8 (.int (nI 0))) 35 (.int (nI 0))) 36 (.int (nI 0))) 34 (.int (nI 0))) 7 = .int 0 from rfl))) dX12_byteAt_2 ?_
  refine lv_icmp_ge (tgt := 21) hx hb dX12_byteAt_5 (by decide) (fun c_180 => ?_) (fun c_180 => absurd (by decide) c_180)
  refine lv_iconst (v := (-1)) hx hb dX12_byteAt_21 (by decide) ?_
  exact cI_ret F hP hD hS hK () rfl [0, 1] rfl rfl dX12_byteAt_22 (by decide) (by decide)
theorem yy_X12_byteAt : cY yX12_byteAt cX12_byteAt 2 (some .int) 1 := ⟨wdK_X12_byteAt, wdZ_RX12, by decide +kernel⟩
theorem yi_X12_byteAt : cYi yX12_byteAt := ⟨wdN_X12_byteAt, wdS_X12_byteAt⟩
theorem dX12_isBlank_0 : decode cX12_isBlank 0 = .ok (.iload_n 0, 1) := by decide +kernel
theorem dX12_isBlank_1 : decode cX12_isBlank 1 = .ok (.bipush 9, 2) := by decide +kernel
theorem dX12_isBlank_3 : decode cX12_isBlank 3 = .ok (.if_icmp .eq 21, 3) := by decide +kernel
theorem dX12_isBlank_6 : decode cX12_isBlank 6 = .ok (.iload_n 0, 1) := by decide +kernel
theorem dX12_isBlank_7 : decode cX12_isBlank 7 = .ok (.bipush 10, 2) := by decide +kernel
theorem dX12_isBlank_9 : decode cX12_isBlank 9 = .ok (.if_icmp .eq 15, 3) := by decide +kernel
theorem dX12_isBlank_12 : decode cX12_isBlank 12 = .ok (.iload_n 0, 1) := by decide +kernel
theorem dX12_isBlank_13 : decode cX12_isBlank 13 = .ok (.bipush 13, 2) := by decide +kernel
theorem dX12_isBlank_15 : decode cX12_isBlank 15 = .ok (.if_icmp .eq 9, 3) := by decide +kernel
theorem dX12_isBlank_18 : decode cX12_isBlank 18 = .ok (.iload_n 0, 1) := by decide +kernel
theorem dX12_isBlank_19 : decode cX12_isBlank 19 = .ok (.bipush 32, 2) := by decide +kernel
theorem dX12_isBlank_21 : decode cX12_isBlank 21 = .ok (.if_icmp .ne 7, 3) := by decide +kernel
theorem dX12_isBlank_24 : decode cX12_isBlank 24 = .ok (.iconst 1, 1) := by decide +kernel
theorem dX12_isBlank_25 : decode cX12_isBlank 25 = .ok (.goto 4, 3) := by decide +kernel
theorem dX12_isBlank_28 : decode cX12_isBlank 28 = .ok (.iconst 0, 1) := by decide +kernel
theorem dX12_isBlank_29 : decode cX12_isBlank 29 = .ok (.ireturn, 1) := by decide +kernel
abbrev rm_z6_X12_isBlank : Room := { frames := 0, cells := 0, slots := 0, locals := 0 }
set_option maxHeartbeats 4000000 in
set_option maxRecDepth 100000 in
theorem z6_X12_isBlank (l : Launch) (E : cE) (h0 : Nat) (r : Nat → Nat) (g : Nat → Value) (gx : Nat → Int32) (gy : Nat → Int32) (gw : Nat → Int32) (gt : Nat → Int32) (fx : Nat → Int32) (fy : Nat → Int32) (fw : Nat → Int32) (bx : Nat → Int32) (by_ : Nat → Int32) (bw : Nat → Int32) (hR : mOK r g) (hI : ∀ k, k < 116 → mRef k = false → g k = mI k) (hm1 : flo (stC 0) (2 * 4) gx gy gw) (hm2 : ∀ d, d < 2 * 4 → gt d = 0) (hm3 : ∀ d, d < 2 * 4 → fx d = gx d ∧ fy d = gy d ∧ fw d = gw d) (hm4 : ∀ d, d < 2 * 4 → bx d = gx d ∧ by_ d = gy d ∧ bw d = gw d) : cM l E yX12_isBlank cX12_isBlank 1 (some .boolean) rm_z6_X12_isBlank [.int (-1)] [(h0, ob 12 (mfs (updG (updG (updG (updG (updG (updG (updG g 7 (.int 0)) 1 (.int (nI 0))) 2 (.int (nI 0))) 8 (.int (nI 0))) 35 (.int (nI 0))) 36 (.int (nI 0))) 34 (.int (nI 0))))), ((r 0), aB E 4096 (fun _ => 0))] (qI E (fun (r : Int32) (_u : Unit) => r = nI 0) (fun _ => [(h0, ob 12 (mfs (updG (updG (updG (updG (updG (updG (updG g 7 (.int 0)) 1 (.int (nI 0))) 2 (.int (nI 0))) 8 (.int (nI 0))) 35 (.int (nI 0))) 36 (.int (nI 0))) 34 (.int (nI 0))))), ((r 0), aB E 4096 (fun _ => 0))])) := by
  refine cM_of (by decide) (Nat.le_of_ble_eq_true rfl) ?_
  intro p e s m below meth c ls A F hA hS hP hD hK hZ hl
  obtain ⟨hx, hb, hr, hml, hown, hts, hlk, hin⟩ := id F
  have hown : s.vm.findClass RX12 = some m.cls := hown
  have hl : lv_has ls 1 [(0, .int (-1))] := hl
  refine lv_iload_n hx hb dX12_isBlank_0 rfl (lv_at hl 0 rfl) ?_
  refine lv_bipush (v := nI 9) hx hb dX12_isBlank_1 (by decide) ?_
  refine lv_icmp_eq (tgt := 24) hx hb dX12_isBlank_3 (by decide) (fun c_184 => absurd c_184 (by decide)) (fun c_184 => ?_)
  refine lv_iload_n hx hb dX12_isBlank_6 rfl (lv_at hl 0 rfl) ?_
  refine lv_bipush (v := nI 10) hx hb dX12_isBlank_7 (by decide) ?_
  refine lv_icmp_eq (tgt := 24) hx hb dX12_isBlank_9 (by decide) (fun c_185 => absurd c_185 (by decide)) (fun c_185 => ?_)
  refine lv_iload_n hx hb dX12_isBlank_12 rfl (lv_at hl 0 rfl) ?_
  refine lv_bipush (v := nI 13) hx hb dX12_isBlank_13 (by decide) ?_
  refine lv_icmp_eq (tgt := 24) hx hb dX12_isBlank_15 (by decide) (fun c_186 => absurd c_186 (by decide)) (fun c_186 => ?_)
  refine lv_iload_n hx hb dX12_isBlank_18 rfl (lv_at hl 0 rfl) ?_
  refine lv_bipush (v := nI 32) hx hb dX12_isBlank_19 (by decide) ?_
  refine lv_icmp_ne (tgt := 28) hx hb dX12_isBlank_21 (by decide) (fun c_187 => ?_) (fun c_187 => absurd c_187 (by decide))
  refine lv_iconst (v := nI 0) hx hb dX12_isBlank_28 (by decide) ?_
  exact cB_ret F hP hD hS hK (by decide) () rfl [0, 1] rfl rfl dX12_isBlank_29 (by decide) (by decide)
theorem yy_X12_isBlank : cY yX12_isBlank cX12_isBlank 1 (some .boolean) 1 := ⟨wdK_X12_isBlank, wdZ_RX12, by decide +kernel⟩
abbrev rm_z7_X12_byteAt : Room := { frames := 0, cells := 0, slots := 0, locals := 0 }
set_option maxHeartbeats 4000000 in
set_option maxRecDepth 100000 in
theorem z7_X12_byteAt (l : Launch) (E : cE) (h0 : Nat) (r : Nat → Nat) (g : Nat → Value) (gx : Nat → Int32) (gy : Nat → Int32) (gw : Nat → Int32) (gt : Nat → Int32) (fx : Nat → Int32) (fy : Nat → Int32) (fw : Nat → Int32) (bx : Nat → Int32) (by_ : Nat → Int32) (bw : Nat → Int32) (hR : mOK r g) (hI : ∀ k, k < 116 → mRef k = false → g k = mI k) (hm1 : flo (stC 0) (2 * 4) gx gy gw) (hm2 : ∀ d, d < 2 * 4 → gt d = 0) (hm3 : ∀ d, d < 2 * 4 → fx d = gx d ∧ fy d = gy d ∧ fw d = gw d) (hm4 : ∀ d, d < 2 * 4 → bx d = gx d ∧ by_ d = gy d ∧ bw d = gw d) : cM l E yX12_byteAt cX12_byteAt 2 (some .int) rm_z7_X12_byteAt [.ref h0, .int (nI 0)] [(h0, ob 12 (mfs (updG (updG (updG (updG (updG (updG (updG g 7 (.int 0)) 1 (.int (nI 0))) 2 (.int (nI 0))) 8 (.int (nI 0))) 35 (.int (nI 0))) 36 (.int (nI 0))) 34 (.int (nI 0))))), ((r 0), aB E 4096 (fun _ => 0))] (qI E (fun (r : Int32) (_u : Unit) => r = (-1)) (fun _ => [(h0, ob 12 (mfs (updG (updG (updG (updG (updG (updG (updG g 7 (.int 0)) 1 (.int (nI 0))) 2 (.int (nI 0))) 8 (.int (nI 0))) 35 (.int (nI 0))) 36 (.int (nI 0))) 34 (.int (nI 0))))), ((r 0), aB E 4096 (fun _ => 0))])) := by
  refine cM_of (by decide) (Nat.le_of_ble_eq_true rfl) ?_
  intro p e s m below meth c ls A F hA hS hP hD hK hZ hl
  obtain ⟨hx, hb, hr, hml, hown, hts, hlk, hin⟩ := id F
  have hown : s.vm.findClass RX12 = some m.cls := hown
  have hl : lv_has ls 2 [(0, .ref h0), (1, .int (nI 0))] := hl
  refine lv_iload_n hx hb dX12_byteAt_0 rfl (lv_at hl 1 rfl) ?_
  refine lv_aload_n hx hb dX12_byteAt_1 rfl (lv_at hl 0 rfl) ?_
  refine va_get (D := E.1) (ci := 12) (v := .int 0) (C := RX12) (T := TX12) (N := 116) hx hb hts iX12 hown hK hP 0 rfl rfl 7 (by decide) (hts _ wdF_RX12_261) (fun _ h9 => h9) ((mfs_get _ 7 (by decide)).trans (congrArg some (show (updG (updG (updG (updG (updG (updG (updG g 7 (.int 0)) 1 (.int (nI 0))) 2 (.int (nI 0))) 8 (.int (nI 0))) 35 (.int (nI 0))) 36 (.int (nI 0))) 34 (.int (nI 0))) 7 = .int 0 from rfl))) dX12_byteAt_2 ?_
  refine lv_icmp_ge (tgt := 21) hx hb dX12_byteAt_5 (by decide) (fun c_192 => ?_) (fun c_192 => absurd (by decide) c_192)
  refine lv_iconst (v := (-1)) hx hb dX12_byteAt_21 (by decide) ?_
  exact cI_ret F hP hD hS hK () rfl [0, 1] rfl rfl dX12_byteAt_22 (by decide) (by decide)
abbrev rm_z8_X12_byteAt : Room := { frames := 0, cells := 0, slots := 0, locals := 0 }
set_option maxHeartbeats 4000000 in
set_option maxRecDepth 100000 in
theorem z8_X12_byteAt (l : Launch) (E : cE) (h0 : Nat) (r : Nat → Nat) (g : Nat → Value) (gx : Nat → Int32) (gy : Nat → Int32) (gw : Nat → Int32) (gt : Nat → Int32) (fx : Nat → Int32) (fy : Nat → Int32) (fw : Nat → Int32) (bx : Nat → Int32) (by_ : Nat → Int32) (bw : Nat → Int32) (hR : mOK r g) (hI : ∀ k, k < 116 → mRef k = false → g k = mI k) (hm1 : flo (stC 0) (2 * 4) gx gy gw) (hm2 : ∀ d, d < 2 * 4 → gt d = 0) (hm3 : ∀ d, d < 2 * 4 → fx d = gx d ∧ fy d = gy d ∧ fw d = gw d) (hm4 : ∀ d, d < 2 * 4 → bx d = gx d ∧ by_ d = gy d ∧ bw d = gw d) : cM l E yX12_byteAt cX12_byteAt 2 (some .int) rm_z8_X12_byteAt [.ref h0, .int (nI 0)] [(h0, ob 12 (mfs (updG (updG (updG (updG (updG (updG (updG (updG g 7 (.int 0)) 1 (.int (nI 0))) 2 (.int (nI 0))) 8 (.int (nI 0))) 35 (.int (nI 0))) 36 (.int (nI 0))) 34 (.int (nI 0))) 4 (.int (nI 0))))), ((r 0), aB E 4096 (fun _ => 0))] (qI E (fun (r : Int32) (_u : Unit) => r = (-1)) (fun _ => [(h0, ob 12 (mfs (updG (updG (updG (updG (updG (updG (updG (updG g 7 (.int 0)) 1 (.int (nI 0))) 2 (.int (nI 0))) 8 (.int (nI 0))) 35 (.int (nI 0))) 36 (.int (nI 0))) 34 (.int (nI 0))) 4 (.int (nI 0))))), ((r 0), aB E 4096 (fun _ => 0))])) := by
  refine cM_of (by decide) (Nat.le_of_ble_eq_true rfl) ?_
  intro p e s m below meth c ls A F hA hS hP hD hK hZ hl
  obtain ⟨hx, hb, hr, hml, hown, hts, hlk, hin⟩ := id F
  have hown : s.vm.findClass RX12 = some m.cls := hown
  have hl : lv_has ls 2 [(0, .ref h0), (1, .int (nI 0))] := hl
  refine lv_iload_n hx hb dX12_byteAt_0 rfl (lv_at hl 1 rfl) ?_
  refine lv_aload_n hx hb dX12_byteAt_1 rfl (lv_at hl 0 rfl) ?_
  refine va_get (D := E.1) (ci := 12) (v := .int 0) (C := RX12) (T := TX12) (N := 116) hx hb hts iX12 hown hK hP 0 rfl rfl 7 (by decide) (hts _ wdF_RX12_261) (fun _ h9 => h9) ((mfs_get _ 7 (by decide)).trans (congrArg some (show (updG (updG (updG (updG (updG (updG (updG (updG g 7 (.int 0)) 1 (.int (nI 0))) 2 (.int (nI 0))) 8 (.int (nI 0))) 35 (.int (nI 0))) 36 (.int (nI 0))) 34 (.int (nI 0))) 4 (.int (nI 0))) 7 = .int 0 from rfl))) dX12_byteAt_2 ?_
  refine lv_icmp_ge (tgt := 21) hx hb dX12_byteAt_5 (by decide) (fun c_197 => ?_) (fun c_197 => absurd (by decide) c_197)
  refine lv_iconst (v := (-1)) hx hb dX12_byteAt_21 (by decide) ?_
  exact cI_ret F hP hD hS hK () rfl [0, 1] rfl rfl dX12_byteAt_22 (by decide) (by decide)
theorem dX12_next_0 : decode cX12_next 0 = .ok (.aload_n 0, 1) := by decide +kernel
theorem dX12_next_1 : decode cX12_next 1 = .ok (.aload_n 0, 1) := by decide +kernel
theorem dX12_next_2 : decode cX12_next 2 = .ok (.getfield 264, 3) := by decide +kernel
theorem dX12_next_5 : decode cX12_next 5 = .ok (.invokevirtual 267, 3) := by decide +kernel
theorem dX12_next_8 : decode cX12_next 8 = .ok (.invokestatic 271, 3) := by decide +kernel
theorem dX12_next_11 : decode cX12_next 11 = .ok (.ifCond .ne 16, 3) := by decide +kernel
theorem dX12_next_14 : decode cX12_next 14 = .ok (.aload_n 0, 1) := by decide +kernel
theorem dX12_next_15 : decode cX12_next 15 = .ok (.aload_n 0, 1) := by decide +kernel
theorem dX12_next_16 : decode cX12_next 16 = .ok (.getfield 264, 3) := by decide +kernel
theorem dX12_next_19 : decode cX12_next 19 = .ok (.invokevirtual 267, 3) := by decide +kernel
theorem dX12_next_22 : decode cX12_next 22 = .ok (.bipush 35, 2) := by decide +kernel
theorem dX12_next_24 : decode cX12_next 24 = .ok (.if_icmp .ne 67, 3) := by decide +kernel
theorem dX12_next_27 : decode cX12_next 27 = .ok (.aload_n 0, 1) := by decide +kernel
theorem dX12_next_28 : decode cX12_next 28 = .ok (.aload_n 0, 1) := by decide +kernel
theorem dX12_next_29 : decode cX12_next 29 = .ok (.getfield 264, 3) := by decide +kernel
theorem dX12_next_32 : decode cX12_next 32 = .ok (.invokevirtual 267, 3) := by decide +kernel
theorem dX12_next_35 : decode cX12_next 35 = .ok (.bipush 35, 2) := by decide +kernel
theorem dX12_next_37 : decode cX12_next 37 = .ok (.if_icmp .ne 41, 3) := by decide +kernel
theorem dX12_next_40 : decode cX12_next 40 = .ok (.aload_n 0, 1) := by decide +kernel
theorem dX12_next_41 : decode cX12_next 41 = .ok (.aload_n 0, 1) := by decide +kernel
theorem dX12_next_42 : decode cX12_next 42 = .ok (.getfield 264, 3) := by decide +kernel
theorem dX12_next_45 : decode cX12_next 45 = .ok (.invokevirtual 267, 3) := by decide +kernel
theorem dX12_next_48 : decode cX12_next 48 = .ok (.iconst (-1), 1) := by decide +kernel
theorem dX12_next_49 : decode cX12_next 49 = .ok (.if_icmp .eq (-49), 3) := by decide +kernel
theorem dX12_next_52 : decode cX12_next 52 = .ok (.aload_n 0, 1) := by decide +kernel
theorem dX12_next_53 : decode cX12_next 53 = .ok (.aload_n 0, 1) := by decide +kernel
theorem dX12_next_54 : decode cX12_next 54 = .ok (.getfield 264, 3) := by decide +kernel
theorem dX12_next_57 : decode cX12_next 57 = .ok (.invokevirtual 267, 3) := by decide +kernel
theorem dX12_next_60 : decode cX12_next 60 = .ok (.bipush 10, 2) := by decide +kernel
theorem dX12_next_62 : decode cX12_next 62 = .ok (.if_icmp .eq (-62), 3) := by decide +kernel
theorem dX12_next_65 : decode cX12_next 65 = .ok (.aload_n 0, 1) := by decide +kernel
theorem dX12_next_66 : decode cX12_next 66 = .ok (.dup, 1) := by decide +kernel
theorem dX12_next_67 : decode cX12_next 67 = .ok (.getfield 264, 3) := by decide +kernel
theorem dX12_next_70 : decode cX12_next 70 = .ok (.iconst 1, 1) := by decide +kernel
theorem dX12_next_71 : decode cX12_next 71 = .ok (.iadd, 1) := by decide +kernel
theorem dX12_next_72 : decode cX12_next 72 = .ok (.putfield 264, 3) := by decide +kernel
theorem dX12_next_75 : decode cX12_next 75 = .ok (.goto (-35), 3) := by decide +kernel
theorem dX12_next_78 : decode cX12_next 78 = .ok (.aload_n 0, 1) := by decide +kernel
theorem dX12_next_79 : decode cX12_next 79 = .ok (.dup, 1) := by decide +kernel
theorem dX12_next_80 : decode cX12_next 80 = .ok (.getfield 264, 3) := by decide +kernel
theorem dX12_next_83 : decode cX12_next 83 = .ok (.iconst 1, 1) := by decide +kernel
theorem dX12_next_84 : decode cX12_next 84 = .ok (.iadd, 1) := by decide +kernel
theorem dX12_next_85 : decode cX12_next 85 = .ok (.putfield 264, 3) := by decide +kernel
theorem dX12_next_88 : decode cX12_next 88 = .ok (.goto (-88), 3) := by decide +kernel
theorem dX12_next_91 : decode cX12_next 91 = .ok (.aload_n 0, 1) := by decide +kernel
theorem dX12_next_92 : decode cX12_next 92 = .ok (.aload_n 0, 1) := by decide +kernel
theorem dX12_next_93 : decode cX12_next 93 = .ok (.getfield 264, 3) := by decide +kernel
theorem dX12_next_96 : decode cX12_next 96 = .ok (.putfield 275, 3) := by decide +kernel
theorem dX12_next_99 : decode cX12_next 99 = .ok (.aload_n 0, 1) := by decide +kernel
theorem dX12_next_100 : decode cX12_next 100 = .ok (.aload_n 0, 1) := by decide +kernel
theorem dX12_next_101 : decode cX12_next 101 = .ok (.getfield 264, 3) := by decide +kernel
theorem dX12_next_104 : decode cX12_next 104 = .ok (.invokevirtual 267, 3) := by decide +kernel
theorem dX12_next_107 : decode cX12_next 107 = .ok (.istore_n 1, 1) := by decide +kernel
theorem dX12_next_108 : decode cX12_next 108 = .ok (.iload_n 1, 1) := by decide +kernel
theorem dX12_next_109 : decode cX12_next 109 = .ok (.iconst (-1), 1) := by decide +kernel
theorem dX12_next_110 : decode cX12_next 110 = .ok (.if_icmp .ne 11, 3) := by decide +kernel
theorem dX12_next_113 : decode cX12_next 113 = .ok (.aload_n 0, 1) := by decide +kernel
theorem dX12_next_114 : decode cX12_next 114 = .ok (.iconst 0, 1) := by decide +kernel
theorem dX12_next_115 : decode cX12_next 115 = .ok (.putfield 278, 3) := by decide +kernel
theorem dX12_next_118 : decode cX12_next 118 = .ok (.goto 362, 3) := by decide +kernel
theorem dX12_next_121 : decode cX12_next 121 = .ok (.iload_n 1, 1) := by decide +kernel
theorem dX12_next_122 : decode cX12_next 122 = .ok (.invokestatic 281, 3) := by decide +kernel
theorem dX12_next_125 : decode cX12_next 125 = .ok (.ifCond .eq 111, 3) := by decide +kernel
theorem dX12_next_128 : decode cX12_next 128 = .ok (.aload_n 0, 1) := by decide +kernel
theorem dX12_next_129 : decode cX12_next 129 = .ok (.aload_n 0, 1) := by decide +kernel
theorem dX12_next_130 : decode cX12_next 130 = .ok (.getfield 264, 3) := by decide +kernel
theorem dX12_next_133 : decode cX12_next 133 = .ok (.invokevirtual 267, 3) := by decide +kernel
theorem dX12_next_136 : decode cX12_next 136 = .ok (.invokestatic 281, 3) := by decide +kernel
theorem dX12_next_139 : decode cX12_next 139 = .ok (.ifCond .ne 30, 3) := by decide +kernel
theorem dX12_next_142 : decode cX12_next 142 = .ok (.aload_n 0, 1) := by decide +kernel
theorem dX12_next_143 : decode cX12_next 143 = .ok (.aload_n 0, 1) := by decide +kernel
theorem dX12_next_144 : decode cX12_next 144 = .ok (.getfield 264, 3) := by decide +kernel
theorem dX12_next_147 : decode cX12_next 147 = .ok (.invokevirtual 267, 3) := by decide +kernel
theorem dX12_next_150 : decode cX12_next 150 = .ok (.invokestatic 284, 3) := by decide +kernel
theorem dX12_next_153 : decode cX12_next 153 = .ok (.ifCond .ne 16, 3) := by decide +kernel
theorem dX12_next_156 : decode cX12_next 156 = .ok (.aload_n 0, 1) := by decide +kernel
theorem dX12_next_157 : decode cX12_next 157 = .ok (.aload_n 0, 1) := by decide +kernel
theorem dX12_next_158 : decode cX12_next 158 = .ok (.getfield 264, 3) := by decide +kernel
theorem dX12_next_161 : decode cX12_next 161 = .ok (.invokevirtual 267, 3) := by decide +kernel
theorem dX12_next_164 : decode cX12_next 164 = .ok (.bipush 95, 2) := by decide +kernel
theorem dX12_next_166 : decode cX12_next 166 = .ok (.if_icmp .ne 16, 3) := by decide +kernel
theorem dX12_next_169 : decode cX12_next 169 = .ok (.aload_n 0, 1) := by decide +kernel
theorem dX12_next_170 : decode cX12_next 170 = .ok (.dup, 1) := by decide +kernel
theorem dX12_next_171 : decode cX12_next 171 = .ok (.getfield 264, 3) := by decide +kernel
theorem dX12_next_174 : decode cX12_next 174 = .ok (.iconst 1, 1) := by decide +kernel
theorem dX12_next_175 : decode cX12_next 175 = .ok (.iadd, 1) := by decide +kernel
theorem dX12_next_176 : decode cX12_next 176 = .ok (.putfield 264, 3) := by decide +kernel
theorem dX12_next_179 : decode cX12_next 179 = .ok (.goto (-51), 3) := by decide +kernel
theorem dX12_next_182 : decode cX12_next 182 = .ok (.aload_n 0, 1) := by decide +kernel
theorem dX12_next_183 : decode cX12_next 183 = .ok (.aload_n 0, 1) := by decide +kernel
theorem dX12_next_184 : decode cX12_next 184 = .ok (.getfield 264, 3) := by decide +kernel
theorem dX12_next_187 : decode cX12_next 187 = .ok (.aload_n 0, 1) := by decide +kernel
theorem dX12_next_188 : decode cX12_next 188 = .ok (.getfield 275, 3) := by decide +kernel
theorem dX12_next_191 : decode cX12_next 191 = .ok (.isub, 1) := by decide +kernel
theorem dX12_next_192 : decode cX12_next 192 = .ok (.putfield 287, 3) := by decide +kernel
theorem dX12_next_195 : decode cX12_next 195 = .ok (.aload_n 0, 1) := by decide +kernel
theorem dX12_next_196 : decode cX12_next 196 = .ok (.aload_n 0, 1) := by decide +kernel
theorem dX12_next_197 : decode cX12_next 197 = .ok (.invokevirtual 290, 3) := by decide +kernel
theorem dX12_next_200 : decode cX12_next 200 = .ok (.putfield 294, 3) := by decide +kernel
theorem dX12_next_203 : decode cX12_next 203 = .ok (.aload_n 0, 1) := by decide +kernel
theorem dX12_next_204 : decode cX12_next 204 = .ok (.aload_n 0, 1) := by decide +kernel
theorem dX12_next_205 : decode cX12_next 205 = .ok (.getfield 287, 3) := by decide +kernel
theorem dX12_next_208 : decode cX12_next 208 = .ok (.bipush 24, 2) := by decide +kernel
theorem dX12_next_210 : decode cX12_next 210 = .ok (.if_icmp .le 7, 3) := by decide +kernel
theorem dX12_next_213 : decode cX12_next 213 = .ok (.iconst 5, 1) := by decide +kernel
theorem dX12_next_214 : decode cX12_next 214 = .ok (.goto 16, 3) := by decide +kernel
theorem dX12_next_217 : decode cX12_next 217 = .ok (.aload_n 0, 1) := by decide +kernel
theorem dX12_next_218 : decode cX12_next 218 = .ok (.getfield 294, 3) := by decide +kernel
theorem dX12_next_221 : decode cX12_next 221 = .ok (.iconst (-1), 1) := by decide +kernel
theorem dX12_next_222 : decode cX12_next 222 = .ok (.if_icmp .ne 7, 3) := by decide +kernel
theorem dX12_next_225 : decode cX12_next 225 = .ok (.iconst 2, 1) := by decide +kernel
theorem dX12_next_226 : decode cX12_next 226 = .ok (.goto 4, 3) := by decide +kernel
theorem dX12_next_229 : decode cX12_next 229 = .ok (.iconst 1, 1) := by decide +kernel
theorem dX12_next_230 : decode cX12_next 230 = .ok (.putfield 278, 3) := by decide +kernel
theorem dX12_next_233 : decode cX12_next 233 = .ok (.goto 247, 3) := by decide +kernel
theorem dX12_next_236 : decode cX12_next 236 = .ok (.iload_n 1, 1) := by decide +kernel
theorem dX12_next_237 : decode cX12_next 237 = .ok (.invokestatic 284, 3) := by decide +kernel
theorem dX12_next_240 : decode cX12_next 240 = .ok (.ifCond .ne 9, 3) := by decide +kernel
theorem dX12_next_243 : decode cX12_next 243 = .ok (.iload_n 1, 1) := by decide +kernel
theorem dX12_next_244 : decode cX12_next 244 = .ok (.bipush 45, 2) := by decide +kernel
theorem dX12_next_246 : decode cX12_next 246 = .ok (.if_icmp .ne 152, 3) := by decide +kernel
theorem dX12_next_249 : decode cX12_next 249 = .ok (.aload_n 0, 1) := by decide +kernel
theorem dX12_next_250 : decode cX12_next 250 = .ok (.dup, 1) := by decide +kernel
theorem dX12_next_251 : decode cX12_next 251 = .ok (.getfield 264, 3) := by decide +kernel
theorem dX12_next_254 : decode cX12_next 254 = .ok (.iconst 1, 1) := by decide +kernel
theorem dX12_next_255 : decode cX12_next 255 = .ok (.iadd, 1) := by decide +kernel
theorem dX12_next_256 : decode cX12_next 256 = .ok (.putfield 264, 3) := by decide +kernel
theorem dX12_next_259 : decode cX12_next 259 = .ok (.iload_n 1, 1) := by decide +kernel
theorem dX12_next_260 : decode cX12_next 260 = .ok (.bipush 45, 2) := by decide +kernel
theorem dX12_next_262 : decode cX12_next 262 = .ok (.if_icmp .ne 7, 3) := by decide +kernel
theorem dX12_next_265 : decode cX12_next 265 = .ok (.iconst 0, 1) := by decide +kernel
theorem dX12_next_266 : decode cX12_next 266 = .ok (.goto 4, 3) := by decide +kernel
theorem dX12_next_269 : decode cX12_next 269 = .ok (.iconst 1, 1) := by decide +kernel
theorem dX12_next_270 : decode cX12_next 270 = .ok (.istore_n 2, 1) := by decide +kernel
theorem dX12_next_271 : decode cX12_next 271 = .ok (.aload_n 0, 1) := by decide +kernel
theorem dX12_next_272 : decode cX12_next 272 = .ok (.iload_n 1, 1) := by decide +kernel
theorem dX12_next_273 : decode cX12_next 273 = .ok (.bipush 45, 2) := by decide +kernel
theorem dX12_next_275 : decode cX12_next 275 = .ok (.if_icmp .ne 7, 3) := by decide +kernel
theorem dX12_next_278 : decode cX12_next 278 = .ok (.iconst 0, 1) := by decide +kernel
theorem dX12_next_279 : decode cX12_next 279 = .ok (.goto 7, 3) := by decide +kernel
theorem dX12_next_282 : decode cX12_next 282 = .ok (.iload_n 1, 1) := by decide +kernel
theorem dX12_next_283 : decode cX12_next 283 = .ok (.bipush 48, 2) := by decide +kernel
theorem dX12_next_285 : decode cX12_next 285 = .ok (.isub, 1) := by decide +kernel
theorem dX12_next_286 : decode cX12_next 286 = .ok (.putfield 294, 3) := by decide +kernel
theorem dX12_next_289 : decode cX12_next 289 = .ok (.aload_n 0, 1) := by decide +kernel
theorem dX12_next_290 : decode cX12_next 290 = .ok (.aload_n 0, 1) := by decide +kernel
theorem dX12_next_291 : decode cX12_next 291 = .ok (.getfield 264, 3) := by decide +kernel
theorem dX12_next_294 : decode cX12_next 294 = .ok (.invokevirtual 267, 3) := by decide +kernel
theorem dX12_next_297 : decode cX12_next 297 = .ok (.invokestatic 284, 3) := by decide +kernel
theorem dX12_next_300 : decode cX12_next 300 = .ok (.ifCond .eq 55, 3) := by decide +kernel
theorem dX12_next_303 : decode cX12_next 303 = .ok (.iinc 2 1, 3) := by decide +kernel
theorem dX12_next_306 : decode cX12_next 306 = .ok (.aload_n 0, 1) := by decide +kernel
theorem dX12_next_307 : decode cX12_next 307 = .ok (.iload_n 2, 1) := by decide +kernel
theorem dX12_next_308 : decode cX12_next 308 = .ok (.bipush 6, 2) := by decide +kernel
theorem dX12_next_310 : decode cX12_next 310 = .ok (.if_icmp .ge 25, 3) := by decide +kernel
theorem dX12_next_313 : decode cX12_next 313 = .ok (.bipush 10, 2) := by decide +kernel
theorem dX12_next_315 : decode cX12_next 315 = .ok (.aload_n 0, 1) := by decide +kernel
theorem dX12_next_316 : decode cX12_next 316 = .ok (.getfield 294, 3) := by decide +kernel
theorem dX12_next_319 : decode cX12_next 319 = .ok (.imul, 1) := by decide +kernel
theorem dX12_next_320 : decode cX12_next 320 = .ok (.aload_n 0, 1) := by decide +kernel
theorem dX12_next_321 : decode cX12_next 321 = .ok (.aload_n 0, 1) := by decide +kernel
theorem dX12_next_322 : decode cX12_next 322 = .ok (.getfield 264, 3) := by decide +kernel
theorem dX12_next_325 : decode cX12_next 325 = .ok (.invokevirtual 267, 3) := by decide +kernel
theorem dX12_next_328 : decode cX12_next 328 = .ok (.iadd, 1) := by decide +kernel
theorem dX12_next_329 : decode cX12_next 329 = .ok (.bipush 48, 2) := by decide +kernel
theorem dX12_next_331 : decode cX12_next 331 = .ok (.isub, 1) := by decide +kernel
theorem dX12_next_332 : decode cX12_next 332 = .ok (.goto 7, 3) := by decide +kernel
theorem dX12_next_335 : decode cX12_next 335 = .ok (.aload_n 0, 1) := by decide +kernel
theorem dX12_next_336 : decode cX12_next 336 = .ok (.getfield 294, 3) := by decide +kernel
theorem dX12_next_339 : decode cX12_next 339 = .ok (.putfield 294, 3) := by decide +kernel
theorem dX12_next_342 : decode cX12_next 342 = .ok (.aload_n 0, 1) := by decide +kernel
theorem dX12_next_343 : decode cX12_next 343 = .ok (.dup, 1) := by decide +kernel
theorem dX12_next_344 : decode cX12_next 344 = .ok (.getfield 264, 3) := by decide +kernel
theorem dX12_next_347 : decode cX12_next 347 = .ok (.iconst 1, 1) := by decide +kernel
theorem dX12_next_348 : decode cX12_next 348 = .ok (.iadd, 1) := by decide +kernel
theorem dX12_next_349 : decode cX12_next 349 = .ok (.putfield 264, 3) := by decide +kernel
theorem dX12_next_352 : decode cX12_next 352 = .ok (.goto (-63), 3) := by decide +kernel
theorem dX12_next_355 : decode cX12_next 355 = .ok (.aload_n 0, 1) := by decide +kernel
theorem dX12_next_356 : decode cX12_next 356 = .ok (.iload_n 2, 1) := by decide +kernel
theorem dX12_next_357 : decode cX12_next 357 = .ok (.iconst 1, 1) := by decide +kernel
theorem dX12_next_358 : decode cX12_next 358 = .ok (.iconst 5, 1) := by decide +kernel
theorem dX12_next_359 : decode cX12_next 359 = .ok (.invokestatic 227, 3) := by decide +kernel
theorem dX12_next_362 : decode cX12_next 362 = .ok (.ifCond .eq 7, 3) := by decide +kernel
theorem dX12_next_365 : decode cX12_next 365 = .ok (.iconst 3, 1) := by decide +kernel
theorem dX12_next_366 : decode cX12_next 366 = .ok (.goto 4, 3) := by decide +kernel
theorem dX12_next_369 : decode cX12_next 369 = .ok (.iconst 5, 1) := by decide +kernel
theorem dX12_next_370 : decode cX12_next 370 = .ok (.putfield 278, 3) := by decide +kernel
theorem dX12_next_373 : decode cX12_next 373 = .ok (.aload_n 0, 1) := by decide +kernel
theorem dX12_next_374 : decode cX12_next 374 = .ok (.iload_n 1, 1) := by decide +kernel
theorem dX12_next_375 : decode cX12_next 375 = .ok (.bipush 45, 2) := by decide +kernel
theorem dX12_next_377 : decode cX12_next 377 = .ok (.if_icmp .ne 11, 3) := by decide +kernel
theorem dX12_next_380 : decode cX12_next 380 = .ok (.aload_n 0, 1) := by decide +kernel
theorem dX12_next_381 : decode cX12_next 381 = .ok (.getfield 294, 3) := by decide +kernel
theorem dX12_next_384 : decode cX12_next 384 = .ok (.ineg, 1) := by decide +kernel
theorem dX12_next_385 : decode cX12_next 385 = .ok (.goto 7, 3) := by decide +kernel
theorem dX12_next_388 : decode cX12_next 388 = .ok (.aload_n 0, 1) := by decide +kernel
theorem dX12_next_389 : decode cX12_next 389 = .ok (.getfield 294, 3) := by decide +kernel
theorem dX12_next_392 : decode cX12_next 392 = .ok (.putfield 294, 3) := by decide +kernel
theorem dX12_next_395 : decode cX12_next 395 = .ok (.goto 85, 3) := by decide +kernel
theorem dX12_next_398 : decode cX12_next 398 = .ok (.aload_n 0, 1) := by decide +kernel
theorem dX12_next_399 : decode cX12_next 399 = .ok (.dup, 1) := by decide +kernel
theorem dX12_next_400 : decode cX12_next 400 = .ok (.getfield 264, 3) := by decide +kernel
theorem dX12_next_403 : decode cX12_next 403 = .ok (.iconst 1, 1) := by decide +kernel
theorem dX12_next_404 : decode cX12_next 404 = .ok (.iadd, 1) := by decide +kernel
theorem dX12_next_405 : decode cX12_next 405 = .ok (.putfield 264, 3) := by decide +kernel
theorem dX12_next_408 : decode cX12_next 408 = .ok (.aload_n 0, 1) := by decide +kernel
theorem dX12_next_409 : decode cX12_next 409 = .ok (.iload_n 1, 1) := by decide +kernel
theorem dX12_next_410 : decode cX12_next 410 = .ok (.putfield 294, 3) := by decide +kernel
theorem dX12_next_413 : decode cX12_next 413 = .ok (.iload_n 1, 1) := by decide +kernel
theorem dX12_next_414 : decode cX12_next 414 = .ok (.bipush 123, 2) := by decide +kernel
theorem dX12_next_416 : decode cX12_next 416 = .ok (.if_icmp .eq 45, 3) := by decide +kernel
theorem dX12_next_419 : decode cX12_next 419 = .ok (.iload_n 1, 1) := by decide +kernel
theorem dX12_next_420 : decode cX12_next 420 = .ok (.bipush 125, 2) := by decide +kernel
theorem dX12_next_422 : decode cX12_next 422 = .ok (.if_icmp .eq 39, 3) := by decide +kernel
theorem dX12_next_425 : decode cX12_next 425 = .ok (.iload_n 1, 1) := by decide +kernel
theorem dX12_next_426 : decode cX12_next 426 = .ok (.bipush 40, 2) := by decide +kernel
theorem dX12_next_428 : decode cX12_next 428 = .ok (.if_icmp .eq 33, 3) := by decide +kernel
theorem dX12_next_431 : decode cX12_next 431 = .ok (.iload_n 1, 1) := by decide +kernel
theorem dX12_next_432 : decode cX12_next 432 = .ok (.bipush 41, 2) := by decide +kernel
theorem dX12_next_434 : decode cX12_next 434 = .ok (.if_icmp .eq 27, 3) := by decide +kernel
theorem dX12_next_437 : decode cX12_next 437 = .ok (.iload_n 1, 1) := by decide +kernel
theorem dX12_next_438 : decode cX12_next 438 = .ok (.bipush 44, 2) := by decide +kernel
theorem dX12_next_440 : decode cX12_next 440 = .ok (.if_icmp .eq 21, 3) := by decide +kernel
theorem dX12_next_443 : decode cX12_next 443 = .ok (.iload_n 1, 1) := by decide +kernel
theorem dX12_next_444 : decode cX12_next 444 = .ok (.bipush 59, 2) := by decide +kernel
theorem dX12_next_446 : decode cX12_next 446 = .ok (.if_icmp .eq 15, 3) := by decide +kernel
theorem dX12_next_449 : decode cX12_next 449 = .ok (.iload_n 1, 1) := by decide +kernel
theorem dX12_next_450 : decode cX12_next 450 = .ok (.bipush 61, 2) := by decide +kernel
theorem dX12_next_452 : decode cX12_next 452 = .ok (.if_icmp .eq 9, 3) := by decide +kernel
theorem dX12_next_455 : decode cX12_next 455 = .ok (.iload_n 1, 1) := by decide +kernel
theorem dX12_next_456 : decode cX12_next 456 = .ok (.bipush 38, 2) := by decide +kernel
theorem dX12_next_458 : decode cX12_next 458 = .ok (.if_icmp .ne 7, 3) := by decide +kernel
theorem dX12_next_461 : decode cX12_next 461 = .ok (.iconst 1, 1) := by decide +kernel
theorem dX12_next_462 : decode cX12_next 462 = .ok (.goto 4, 3) := by decide +kernel
theorem dX12_next_465 : decode cX12_next 465 = .ok (.iconst 0, 1) := by decide +kernel
theorem dX12_next_466 : decode cX12_next 466 = .ok (.istore_n 2, 1) := by decide +kernel
theorem dX12_next_467 : decode cX12_next 467 = .ok (.aload_n 0, 1) := by decide +kernel
theorem dX12_next_468 : decode cX12_next 468 = .ok (.iload_n 2, 1) := by decide +kernel
theorem dX12_next_469 : decode cX12_next 469 = .ok (.ifCond .eq 7, 3) := by decide +kernel
theorem dX12_next_472 : decode cX12_next 472 = .ok (.iconst 4, 1) := by decide +kernel
theorem dX12_next_473 : decode cX12_next 473 = .ok (.goto 4, 3) := by decide +kernel
theorem dX12_next_476 : decode cX12_next 476 = .ok (.iconst 5, 1) := by decide +kernel
theorem dX12_next_477 : decode cX12_next 477 = .ok (.putfield 278, 3) := by decide +kernel
theorem dX12_next_480 : decode cX12_next 480 = .ok (.return_, 1) := by decide +kernel
abbrev rm_z4_X12_next : Room := { frames := 1, cells := 0, slots := 0, locals := 21 }
set_option maxHeartbeats 4000000 in
set_option maxRecDepth 100000 in
theorem z4_X12_next (l : Launch) (E : cE) (h0 : Nat) (r : Nat → Nat) (g : Nat → Value) (gx : Nat → Int32) (gy : Nat → Int32) (gw : Nat → Int32) (gt : Nat → Int32) (fx : Nat → Int32) (fy : Nat → Int32) (fw : Nat → Int32) (bx : Nat → Int32) (by_ : Nat → Int32) (bw : Nat → Int32) (hR : mOK r g) (hI : ∀ k, k < 116 → mRef k = false → g k = mI k) (hm1 : flo (stC 0) (2 * 4) gx gy gw) (hm2 : ∀ d, d < 2 * 4 → gt d = 0) (hm3 : ∀ d, d < 2 * 4 → fx d = gx d ∧ fy d = gy d ∧ fw d = gw d) (hm4 : ∀ d, d < 2 * 4 → bx d = gx d ∧ by_ d = gy d ∧ bw d = gw d) : cM l E yX12_next cX12_next 3 none rm_z4_X12_next [.ref h0] [(h0, ob 12 (mfs (updG (updG (updG (updG (updG (updG (updG g 7 (.int 0)) 1 (.int (nI 0))) 2 (.int (nI 0))) 8 (.int (nI 0))) 35 (.int (nI 0))) 36 (.int (nI 0))) 34 (.int (nI 0))))), ((r 0), aB E 4096 (fun _ => 0))] (qV E (fun (_u : Unit) => True) (fun _ => [(h0, ob 12 (mfs (updG (updG (updG (updG (updG (updG (updG (updG (updG g 7 (.int 0)) 1 (.int (nI 0))) 2 (.int (nI 0))) 8 (.int (nI 0))) 35 (.int (nI 0))) 36 (.int (nI 0))) 34 (.int (nI 0))) 4 (.int (nI 0))) 3 (.int (nI 0))))), ((r 0), aB E 4096 (fun _ => 0))])) := by
  refine cM_of (by decide) (Nat.le_of_ble_eq_true rfl) ?_
  intro p e s m below meth c ls A F hA hS hP hD hK hZ hl
  obtain ⟨hx, hb, hr, hml, hown, hts, hlk, hin⟩ := id F
  have hown : s.vm.findClass RX12 = some m.cls := hown
  have hl : lv_has ls 3 [(0, .ref h0)] := hl
  refine lv_aload_n hx hb dX12_next_0 rfl (lv_at hl 0 rfl) ?_
  refine lv_aload_n hx hb dX12_next_1 rfl (lv_at hl 0 rfl) ?_
  refine va_get (D := E.1) (ci := 12) (v := .int (nI 0)) (C := RX12) (T := TX12) (N := 116) hx hb hts iX12 hown hK hP 0 rfl rfl 2 (by decide) (hts _ wdF_RX12_264) (fun _ h9 => h9) ((mfs_get _ 2 (by decide)).trans (congrArg some (show (updG (updG (updG (updG (updG (updG (updG g 7 (.int 0)) 1 (.int (nI 0))) 2 (.int (nI 0))) 8 (.int (nI 0))) 35 (.int (nI 0))) 36 (.int (nI 0))) 34 (.int (nI 0))) 2 = .int (nI 0) from rfl))) dX12_next_2 ?_
  refine cI_go (wr := []) (cM_runV (As := [.int (nI 0)]) (rest := []) F (z5_X12_byteAt l E h0 r g gx gy gw gt fx fy fw bx by_ bw hR hI hm1 hm2 hm3 hm4) yy_X12_byteAt yi_X12_byteAt wdM_RX12_267 hP hD hS hK hZ hA [0, 1] rfl rfl 0 12 rfl rfl rfl hl.1 rfl (Nat.le_of_ble_eq_true rfl) dX12_next_5 ⟨by decide, by decide⟩ ⟨by decide, by decide⟩) hP hD hS hA [0, 1] [] rfl rfl rfl (by decide) (fun r_183 u_182 H locs hw_181 hP hD hS => ?_)
  try dsimp only at hw_181
  have hP : va_P E.1 vwCl [(h0, ob 12 (mfs (updG (updG (updG (updG (updG (updG (updG g 7 (.int 0)) 1 (.int (nI 0))) 2 (.int (nI 0))) 8 (.int (nI 0))) 35 (.int (nI 0))) 36 (.int (nI 0))) 34 (.int (nI 0))))), ((r 0), aB E 4096 (fun _ => 0))] H := hP
  have hD : va_D A [(h0, ob 12 (mfs (updG (updG (updG (updG (updG (updG (updG g 7 (.int 0)) 1 (.int (nI 0))) 2 (.int (nI 0))) 8 (.int (nI 0))) 35 (.int (nI 0))) 36 (.int (nI 0))) 34 (.int (nI 0))))), ((r 0), aB E 4096 (fun _ => 0))] := hD
  subst hw_181
  refine cI_go (wr := []) (cM_runS (As := [.int (-1)]) (rest := []) F (z6_X12_isBlank l E h0 r g gx gy gw gt fx fy fw bx by_ bw hR hI hm1 hm2 hm3 hm4) yy_X12_isBlank wdT_X12_isBlank wdM_RX12_271 hP hD hS hK hZ hA [0, 1] rfl rfl rfl hl.1 rfl (Nat.le_of_ble_eq_true rfl) dX12_next_8 ⟨by decide, by decide⟩ ⟨by decide, by decide⟩) hP hD hS hA [0, 1] [] rfl rfl rfl (by decide) (fun r_190 u_189 H locs hw_188 hP hD hS => ?_)
  try dsimp only at hw_188
  have hP : va_P E.1 vwCl [(h0, ob 12 (mfs (updG (updG (updG (updG (updG (updG (updG g 7 (.int 0)) 1 (.int (nI 0))) 2 (.int (nI 0))) 8 (.int (nI 0))) 35 (.int (nI 0))) 36 (.int (nI 0))) 34 (.int (nI 0))))), ((r 0), aB E 4096 (fun _ => 0))] H := hP
  have hD : va_D A [(h0, ob 12 (mfs (updG (updG (updG (updG (updG (updG (updG g 7 (.int 0)) 1 (.int (nI 0))) 2 (.int (nI 0))) 8 (.int (nI 0))) 35 (.int (nI 0))) 36 (.int (nI 0))) 34 (.int (nI 0))))), ((r 0), aB E 4096 (fun _ => 0))] := hD
  subst hw_188
  refine lv_if_ne (tgt := 27) hx hb dX12_next_11 (by decide) (fun c_191 => absurd (by decide) c_191) (fun c_191 => ?_)
  refine lv_aload_n hx hb dX12_next_14 rfl (lv_at hl 0 rfl) ?_
  refine lv_aload_n hx hb dX12_next_15 rfl (lv_at hl 0 rfl) ?_
  refine va_get (D := E.1) (ci := 12) (v := .int (nI 0)) (C := RX12) (T := TX12) (N := 116) hx hb hts iX12 hown hK hP 0 rfl rfl 2 (by decide) (hts _ wdF_RX12_264) (fun _ h9 => h9) ((mfs_get _ 2 (by decide)).trans (congrArg some (show (updG (updG (updG (updG (updG (updG (updG g 7 (.int 0)) 1 (.int (nI 0))) 2 (.int (nI 0))) 8 (.int (nI 0))) 35 (.int (nI 0))) 36 (.int (nI 0))) 34 (.int (nI 0))) 2 = .int (nI 0) from rfl))) dX12_next_16 ?_
  refine cI_go (wr := []) (cM_runV (As := [.int (nI 0)]) (rest := []) F (z7_X12_byteAt l E h0 r g gx gy gw gt fx fy fw bx by_ bw hR hI hm1 hm2 hm3 hm4) yy_X12_byteAt yi_X12_byteAt wdM_RX12_267 hP hD hS hK hZ hA [0, 1] rfl rfl 0 12 rfl rfl rfl hl.1 rfl (Nat.le_of_ble_eq_true rfl) dX12_next_19 ⟨by decide, by decide⟩ ⟨by decide, by decide⟩) hP hD hS hA [0, 1] [] rfl rfl rfl (by decide) (fun r_195 u_194 H locs hw_193 hP hD hS => ?_)
  try dsimp only at hw_193
  have hP : va_P E.1 vwCl [(h0, ob 12 (mfs (updG (updG (updG (updG (updG (updG (updG g 7 (.int 0)) 1 (.int (nI 0))) 2 (.int (nI 0))) 8 (.int (nI 0))) 35 (.int (nI 0))) 36 (.int (nI 0))) 34 (.int (nI 0))))), ((r 0), aB E 4096 (fun _ => 0))] H := hP
  have hD : va_D A [(h0, ob 12 (mfs (updG (updG (updG (updG (updG (updG (updG g 7 (.int 0)) 1 (.int (nI 0))) 2 (.int (nI 0))) 8 (.int (nI 0))) 35 (.int (nI 0))) 36 (.int (nI 0))) 34 (.int (nI 0))))), ((r 0), aB E 4096 (fun _ => 0))] := hD
  subst hw_193
  refine lv_bipush (v := nI 35) hx hb dX12_next_22 (by decide) ?_
  refine lv_icmp_ne (tgt := 91) hx hb dX12_next_24 (by decide) (fun c_196 => ?_) (fun c_196 => absurd c_196 (by decide))
  refine lv_aload_n hx hb dX12_next_91 rfl (lv_at hl 0 rfl) ?_
  refine lv_aload_n hx hb dX12_next_92 rfl (lv_at hl 0 rfl) ?_
  refine va_get (D := E.1) (ci := 12) (v := .int (nI 0)) (C := RX12) (T := TX12) (N := 116) hx hb hts iX12 hown hK hP 0 rfl rfl 2 (by decide) (hts _ wdF_RX12_264) (fun _ h9 => h9) ((mfs_get _ 2 (by decide)).trans (congrArg some (show (updG (updG (updG (updG (updG (updG (updG g 7 (.int 0)) 1 (.int (nI 0))) 2 (.int (nI 0))) 8 (.int (nI 0))) 35 (.int (nI 0))) 36 (.int (nI 0))) 34 (.int (nI 0))) 2 = .int (nI 0) from rfl))) dX12_next_93 ?_
  refine va_put (D := E.1) (ci := 12) (v := .int (nI 0)) (ty := .int) (C := RX12) (T := TX12) (N := 116) hx hb hts iX12 tyX12 tyX12_ok nmX12 hown hK hP hD hS 0 rfl rfl 4 (by decide) (hts _ wdF_RX12_275) (fun _ h9 => h9) rfl (by decide +kernel) rfl rfl (by rw [mfs_len]; decide) dX12_next_96 (fun H locs hP hD hS => ?_)
  have hP : va_P E.1 vwCl [(h0, ob 12 ((mfs (updG (updG (updG (updG (updG (updG (updG g 7 (.int 0)) 1 (.int (nI 0))) 2 (.int (nI 0))) 8 (.int (nI 0))) 35 (.int (nI 0))) 36 (.int (nI 0))) 34 (.int (nI 0)))).set 4 (.int (nI 0)))), ((r 0), aB E 4096 (fun _ => 0))] H := hP
  have hD : va_D A [(h0, ob 12 ((mfs (updG (updG (updG (updG (updG (updG (updG g 7 (.int 0)) 1 (.int (nI 0))) 2 (.int (nI 0))) 8 (.int (nI 0))) 35 (.int (nI 0))) 36 (.int (nI 0))) 34 (.int (nI 0)))).set 4 (.int (nI 0)))), ((r 0), aB E 4096 (fun _ => 0))] := hD
  rw [mfs_set _ 4 _ (by decide)] at hP hD
  refine lv_aload_n hx hb dX12_next_99 rfl (lv_at hl 0 rfl) ?_
  refine lv_aload_n hx hb dX12_next_100 rfl (lv_at hl 0 rfl) ?_
  refine va_get (D := E.1) (ci := 12) (v := .int (nI 0)) (C := RX12) (T := TX12) (N := 116) hx hb hts iX12 hown hK hP 0 rfl rfl 2 (by decide) (hts _ wdF_RX12_264) (fun _ h9 => h9) ((mfs_get _ 2 (by decide)).trans (congrArg some (show (updG (updG (updG (updG (updG (updG (updG (updG g 7 (.int 0)) 1 (.int (nI 0))) 2 (.int (nI 0))) 8 (.int (nI 0))) 35 (.int (nI 0))) 36 (.int (nI 0))) 34 (.int (nI 0))) 4 (.int (nI 0))) 2 = .int (nI 0) from rfl))) dX12_next_101 ?_
  refine cI_go (wr := []) (cM_runV (As := [.int (nI 0)]) (rest := []) F (z8_X12_byteAt l E h0 r g gx gy gw gt fx fy fw bx by_ bw hR hI hm1 hm2 hm3 hm4) yy_X12_byteAt yi_X12_byteAt wdM_RX12_267 hP hD hS hK hZ hA [0, 1] rfl rfl 0 12 rfl rfl rfl hl.1 rfl (Nat.le_of_ble_eq_true rfl) dX12_next_104 ⟨by decide, by decide⟩ ⟨by decide, by decide⟩) hP hD hS hA [0, 1] [] rfl rfl rfl (by decide) (fun r_200 u_199 H locs hw_198 hP hD hS => ?_)
  try dsimp only at hw_198
  have hP : va_P E.1 vwCl [(h0, ob 12 (mfs (updG (updG (updG (updG (updG (updG (updG (updG g 7 (.int 0)) 1 (.int (nI 0))) 2 (.int (nI 0))) 8 (.int (nI 0))) 35 (.int (nI 0))) 36 (.int (nI 0))) 34 (.int (nI 0))) 4 (.int (nI 0))))), ((r 0), aB E 4096 (fun _ => 0))] H := hP
  have hD : va_D A [(h0, ob 12 (mfs (updG (updG (updG (updG (updG (updG (updG (updG g 7 (.int 0)) 1 (.int (nI 0))) 2 (.int (nI 0))) 8 (.int (nI 0))) 35 (.int (nI 0))) 36 (.int (nI 0))) 34 (.int (nI 0))) 4 (.int (nI 0))))), ((r 0), aB E 4096 (fun _ => 0))] := hD
  subst hw_198
  refine lv_istore_n (lv' := [(1, .int (-1)), (0, .ref h0)]) hx hb dX12_next_107 rfl hl (by decide) rfl (fun ls hl => ?_)
  refine lv_iload_n hx hb dX12_next_108 rfl (lv_at hl 0 rfl) ?_
  refine lv_iconst (v := (-1)) hx hb dX12_next_109 (by decide) ?_
  refine lv_icmp_ne (tgt := 121) hx hb dX12_next_110 (by decide) (fun c_201 => absurd (by decide) c_201) (fun c_201 => ?_)
  refine lv_aload_n hx hb dX12_next_113 rfl (lv_at hl 1 rfl) ?_
  refine lv_iconst (v := nI 0) hx hb dX12_next_114 (by decide) ?_
  refine va_put (D := E.1) (ci := 12) (v := .int (nI 0)) (ty := .int) (C := RX12) (T := TX12) (N := 116) hx hb hts iX12 tyX12 tyX12_ok nmX12 hown hK hP hD hS 0 rfl rfl 3 (by decide) (hts _ wdF_RX12_278) (fun _ h9 => h9) rfl (by decide +kernel) rfl rfl (by rw [mfs_len]; decide) dX12_next_115 (fun H locs hP hD hS => ?_)
  have hP : va_P E.1 vwCl [(h0, ob 12 ((mfs (updG (updG (updG (updG (updG (updG (updG (updG g 7 (.int 0)) 1 (.int (nI 0))) 2 (.int (nI 0))) 8 (.int (nI 0))) 35 (.int (nI 0))) 36 (.int (nI 0))) 34 (.int (nI 0))) 4 (.int (nI 0)))).set 3 (.int (nI 0)))), ((r 0), aB E 4096 (fun _ => 0))] H := hP
  have hD : va_D A [(h0, ob 12 ((mfs (updG (updG (updG (updG (updG (updG (updG (updG g 7 (.int 0)) 1 (.int (nI 0))) 2 (.int (nI 0))) 8 (.int (nI 0))) 35 (.int (nI 0))) 36 (.int (nI 0))) 34 (.int (nI 0))) 4 (.int (nI 0)))).set 3 (.int (nI 0)))), ((r 0), aB E 4096 (fun _ => 0))] := hD
  rw [mfs_set _ 3 _ (by decide)] at hP hD
  refine lv_goto (tgt := 480) hx hb dX12_next_118 (by decide) ?_
  exact cV_ret F hP hD hS hK () trivial [0, 1] rfl rfl dX12_next_480 (by decide) (by decide)
theorem yy_X12_next : cY yX12_next cX12_next 3 none 0 := ⟨wdK_X12_next, wdZ_RX12, by decide +kernel⟩
theorem yi_X12_next : cYi yX12_next := ⟨wdN_X12_next, wdS_X12_next⟩
theorem dX12_opensText_0 : decode cX12_opensText 0 = .ok (.aload_n 0, 1) := by decide +kernel
theorem dX12_opensText_1 : decode cX12_opensText 1 = .ok (.aload_n 0, 1) := by decide +kernel
theorem dX12_opensText_2 : decode cX12_opensText 2 = .ok (.getfield 258, 3) := by decide +kernel
theorem dX12_opensText_5 : decode cX12_opensText 5 = .ok (.putfield 261, 3) := by decide +kernel
theorem dX12_opensText_8 : decode cX12_opensText 8 = .ok (.aload_n 0, 1) := by decide +kernel
theorem dX12_opensText_9 : decode cX12_opensText 9 = .ok (.iconst 0, 1) := by decide +kernel
theorem dX12_opensText_10 : decode cX12_opensText 10 = .ok (.putfield 258, 3) := by decide +kernel
theorem dX12_opensText_13 : decode cX12_opensText 13 = .ok (.aload_n 0, 1) := by decide +kernel
theorem dX12_opensText_14 : decode cX12_opensText 14 = .ok (.iconst 0, 1) := by decide +kernel
theorem dX12_opensText_15 : decode cX12_opensText 15 = .ok (.putfield 264, 3) := by decide +kernel
theorem dX12_opensText_18 : decode cX12_opensText 18 = .ok (.aload_n 0, 1) := by decide +kernel
theorem dX12_opensText_19 : decode cX12_opensText 19 = .ok (.iconst 0, 1) := by decide +kernel
theorem dX12_opensText_20 : decode cX12_opensText 20 = .ok (.putfield 308, 3) := by decide +kernel
theorem dX12_opensText_23 : decode cX12_opensText 23 = .ok (.aload_n 0, 1) := by decide +kernel
theorem dX12_opensText_24 : decode cX12_opensText 24 = .ok (.iconst 0, 1) := by decide +kernel
theorem dX12_opensText_25 : decode cX12_opensText 25 = .ok (.putfield 338, 3) := by decide +kernel
theorem dX12_opensText_28 : decode cX12_opensText 28 = .ok (.aload_n 0, 1) := by decide +kernel
theorem dX12_opensText_29 : decode cX12_opensText 29 = .ok (.iconst 0, 1) := by decide +kernel
theorem dX12_opensText_30 : decode cX12_opensText 30 = .ok (.putfield 311, 3) := by decide +kernel
theorem dX12_opensText_33 : decode cX12_opensText 33 = .ok (.aload_n 0, 1) := by decide +kernel
theorem dX12_opensText_34 : decode cX12_opensText 34 = .ok (.iconst 0, 1) := by decide +kernel
theorem dX12_opensText_35 : decode cX12_opensText 35 = .ok (.putfield 320, 3) := by decide +kernel
theorem dX12_opensText_38 : decode cX12_opensText 38 = .ok (.aload_n 0, 1) := by decide +kernel
theorem dX12_opensText_39 : decode cX12_opensText 39 = .ok (.invokevirtual 323, 3) := by decide +kernel
theorem dX12_opensText_42 : decode cX12_opensText 42 = .ok (.return_, 1) := by decide +kernel
abbrev rm_z3_X12_opensText : Room := { frames := 2, cells := 0, slots := 0, locals := 43 }
set_option maxHeartbeats 4000000 in
set_option maxRecDepth 100000 in
theorem z3_X12_opensText (l : Launch) (E : cE) (h0 : Nat) (r : Nat → Nat) (g : Nat → Value) (gx : Nat → Int32) (gy : Nat → Int32) (gw : Nat → Int32) (gt : Nat → Int32) (fx : Nat → Int32) (fy : Nat → Int32) (fw : Nat → Int32) (bx : Nat → Int32) (by_ : Nat → Int32) (bw : Nat → Int32) (hR : mOK r g) (hI : ∀ k, k < 116 → mRef k = false → g k = mI k) (hm1 : flo (stC 0) (2 * 4) gx gy gw) (hm2 : ∀ d, d < 2 * 4 → gt d = 0) (hm3 : ∀ d, d < 2 * 4 → fx d = gx d ∧ fy d = gy d ∧ fw d = gw d) (hm4 : ∀ d, d < 2 * 4 → bx d = gx d ∧ by_ d = gy d ∧ bw d = gw d) : cM l E yX12_opensText cX12_opensText 1 none rm_z3_X12_opensText [.ref h0] [(h0, ob 12 (mfs g)), ((r 0), aB E 4096 (fun _ => 0))] (qV E (fun (_u : Unit) => True) (fun _ => [(h0, ob 12 (mfs (updG (updG (updG (updG (updG (updG (updG (updG (updG g 7 (.int 0)) 1 (.int (nI 0))) 2 (.int (nI 0))) 8 (.int (nI 0))) 35 (.int (nI 0))) 36 (.int (nI 0))) 34 (.int (nI 0))) 4 (.int (nI 0))) 3 (.int (nI 0))))), ((r 0), aB E 4096 (fun _ => 0))])) := by
  refine cM_of (by decide) (Nat.le_of_ble_eq_true rfl) ?_
  intro p e s m below meth c ls A F hA hS hP hD hK hZ hl
  obtain ⟨hx, hb, hr, hml, hown, hts, hlk, hin⟩ := id F
  have hown : s.vm.findClass RX12 = some m.cls := hown
  have hl : lv_has ls 1 [(0, .ref h0)] := hl
  refine lv_aload_n hx hb dX12_opensText_0 rfl (lv_at hl 0 rfl) ?_
  refine lv_aload_n hx hb dX12_opensText_1 rfl (lv_at hl 0 rfl) ?_
  refine va_get (D := E.1) (ci := 12) (v := .int 0) (C := RX12) (T := TX12) (N := 116) hx hb hts iX12 hown hK hP 0 rfl rfl 1 (by decide) (hts _ wdF_RX12_258) (fun _ h9 => h9) ((mfs_get _ 1 (by decide)).trans (congrArg some (show (g) 1 = .int 0 from (hI 1 (by decide) rfl)))) dX12_opensText_2 ?_
  refine va_put (D := E.1) (ci := 12) (v := .int 0) (ty := .int) (C := RX12) (T := TX12) (N := 116) hx hb hts iX12 tyX12 tyX12_ok nmX12 hown hK hP hD hS 0 rfl rfl 7 (by decide) (hts _ wdF_RX12_261) (fun _ h9 => h9) rfl (by decide +kernel) rfl rfl (by rw [mfs_len]; decide) dX12_opensText_5 (fun H locs hP hD hS => ?_)
  have hP : va_P E.1 vwCl [(h0, ob 12 ((mfs g).set 7 (.int 0))), ((r 0), aB E 4096 (fun _ => 0))] H := hP
  have hD : va_D A [(h0, ob 12 ((mfs g).set 7 (.int 0))), ((r 0), aB E 4096 (fun _ => 0))] := hD
  rw [mfs_set _ 7 _ (by decide)] at hP hD
  refine lv_aload_n hx hb dX12_opensText_8 rfl (lv_at hl 0 rfl) ?_
  refine lv_iconst (v := nI 0) hx hb dX12_opensText_9 (by decide) ?_
  refine va_put (D := E.1) (ci := 12) (v := .int (nI 0)) (ty := .int) (C := RX12) (T := TX12) (N := 116) hx hb hts iX12 tyX12 tyX12_ok nmX12 hown hK hP hD hS 0 rfl rfl 1 (by decide) (hts _ wdF_RX12_258) (fun _ h9 => h9) rfl (by decide +kernel) rfl rfl (by rw [mfs_len]; decide) dX12_opensText_10 (fun H locs hP hD hS => ?_)
  have hP : va_P E.1 vwCl [(h0, ob 12 ((mfs (updG g 7 (.int 0))).set 1 (.int (nI 0)))), ((r 0), aB E 4096 (fun _ => 0))] H := hP
  have hD : va_D A [(h0, ob 12 ((mfs (updG g 7 (.int 0))).set 1 (.int (nI 0)))), ((r 0), aB E 4096 (fun _ => 0))] := hD
  rw [mfs_set _ 1 _ (by decide)] at hP hD
  refine lv_aload_n hx hb dX12_opensText_13 rfl (lv_at hl 0 rfl) ?_
  refine lv_iconst (v := nI 0) hx hb dX12_opensText_14 (by decide) ?_
  refine va_put (D := E.1) (ci := 12) (v := .int (nI 0)) (ty := .int) (C := RX12) (T := TX12) (N := 116) hx hb hts iX12 tyX12 tyX12_ok nmX12 hown hK hP hD hS 0 rfl rfl 2 (by decide) (hts _ wdF_RX12_264) (fun _ h9 => h9) rfl (by decide +kernel) rfl rfl (by rw [mfs_len]; decide) dX12_opensText_15 (fun H locs hP hD hS => ?_)
  have hP : va_P E.1 vwCl [(h0, ob 12 ((mfs (updG (updG g 7 (.int 0)) 1 (.int (nI 0)))).set 2 (.int (nI 0)))), ((r 0), aB E 4096 (fun _ => 0))] H := hP
  have hD : va_D A [(h0, ob 12 ((mfs (updG (updG g 7 (.int 0)) 1 (.int (nI 0)))).set 2 (.int (nI 0)))), ((r 0), aB E 4096 (fun _ => 0))] := hD
  rw [mfs_set _ 2 _ (by decide)] at hP hD
  refine lv_aload_n hx hb dX12_opensText_18 rfl (lv_at hl 0 rfl) ?_
  refine lv_iconst (v := nI 0) hx hb dX12_opensText_19 (by decide) ?_
  refine va_put (D := E.1) (ci := 12) (v := .int (nI 0)) (ty := .int) (C := RX12) (T := TX12) (N := 116) hx hb hts iX12 tyX12 tyX12_ok nmX12 hown hK hP hD hS 0 rfl rfl 8 (by decide) (hts _ wdF_RX12_308) (fun _ h9 => h9) rfl (by decide +kernel) rfl rfl (by rw [mfs_len]; decide) dX12_opensText_20 (fun H locs hP hD hS => ?_)
  have hP : va_P E.1 vwCl [(h0, ob 12 ((mfs (updG (updG (updG g 7 (.int 0)) 1 (.int (nI 0))) 2 (.int (nI 0)))).set 8 (.int (nI 0)))), ((r 0), aB E 4096 (fun _ => 0))] H := hP
  have hD : va_D A [(h0, ob 12 ((mfs (updG (updG (updG g 7 (.int 0)) 1 (.int (nI 0))) 2 (.int (nI 0)))).set 8 (.int (nI 0)))), ((r 0), aB E 4096 (fun _ => 0))] := hD
  rw [mfs_set _ 8 _ (by decide)] at hP hD
  refine lv_aload_n hx hb dX12_opensText_23 rfl (lv_at hl 0 rfl) ?_
  refine lv_iconst (v := nI 0) hx hb dX12_opensText_24 (by decide) ?_
  refine va_put (D := E.1) (ci := 12) (v := .int (nI 0)) (ty := .int) (C := RX12) (T := TX12) (N := 116) hx hb hts iX12 tyX12 tyX12_ok nmX12 hown hK hP hD hS 0 rfl rfl 35 (by decide) (hts _ wdF_RX12_338) (fun _ h9 => h9) rfl (by decide +kernel) rfl rfl (by rw [mfs_len]; decide) dX12_opensText_25 (fun H locs hP hD hS => ?_)
  have hP : va_P E.1 vwCl [(h0, ob 12 ((mfs (updG (updG (updG (updG g 7 (.int 0)) 1 (.int (nI 0))) 2 (.int (nI 0))) 8 (.int (nI 0)))).set 35 (.int (nI 0)))), ((r 0), aB E 4096 (fun _ => 0))] H := hP
  have hD : va_D A [(h0, ob 12 ((mfs (updG (updG (updG (updG g 7 (.int 0)) 1 (.int (nI 0))) 2 (.int (nI 0))) 8 (.int (nI 0)))).set 35 (.int (nI 0)))), ((r 0), aB E 4096 (fun _ => 0))] := hD
  rw [mfs_set _ 35 _ (by decide)] at hP hD
  refine lv_aload_n hx hb dX12_opensText_28 rfl (lv_at hl 0 rfl) ?_
  refine lv_iconst (v := nI 0) hx hb dX12_opensText_29 (by decide) ?_
  refine va_put (D := E.1) (ci := 12) (v := .int (nI 0)) (ty := .int) (C := RX12) (T := TX12) (N := 116) hx hb hts iX12 tyX12 tyX12_ok nmX12 hown hK hP hD hS 0 rfl rfl 36 (by decide) (hts _ wdF_RX12_311) (fun _ h9 => h9) rfl (by decide +kernel) rfl rfl (by rw [mfs_len]; decide) dX12_opensText_30 (fun H locs hP hD hS => ?_)
  have hP : va_P E.1 vwCl [(h0, ob 12 ((mfs (updG (updG (updG (updG (updG g 7 (.int 0)) 1 (.int (nI 0))) 2 (.int (nI 0))) 8 (.int (nI 0))) 35 (.int (nI 0)))).set 36 (.int (nI 0)))), ((r 0), aB E 4096 (fun _ => 0))] H := hP
  have hD : va_D A [(h0, ob 12 ((mfs (updG (updG (updG (updG (updG g 7 (.int 0)) 1 (.int (nI 0))) 2 (.int (nI 0))) 8 (.int (nI 0))) 35 (.int (nI 0)))).set 36 (.int (nI 0)))), ((r 0), aB E 4096 (fun _ => 0))] := hD
  rw [mfs_set _ 36 _ (by decide)] at hP hD
  refine lv_aload_n hx hb dX12_opensText_33 rfl (lv_at hl 0 rfl) ?_
  refine lv_iconst (v := nI 0) hx hb dX12_opensText_34 (by decide) ?_
  refine va_put (D := E.1) (ci := 12) (v := .int (nI 0)) (ty := .int) (C := RX12) (T := TX12) (N := 116) hx hb hts iX12 tyX12 tyX12_ok nmX12 hown hK hP hD hS 0 rfl rfl 34 (by decide) (hts _ wdF_RX12_320) (fun _ h9 => h9) rfl (by decide +kernel) rfl rfl (by rw [mfs_len]; decide) dX12_opensText_35 (fun H locs hP hD hS => ?_)
  have hP : va_P E.1 vwCl [(h0, ob 12 ((mfs (updG (updG (updG (updG (updG (updG g 7 (.int 0)) 1 (.int (nI 0))) 2 (.int (nI 0))) 8 (.int (nI 0))) 35 (.int (nI 0))) 36 (.int (nI 0)))).set 34 (.int (nI 0)))), ((r 0), aB E 4096 (fun _ => 0))] H := hP
  have hD : va_D A [(h0, ob 12 ((mfs (updG (updG (updG (updG (updG (updG g 7 (.int 0)) 1 (.int (nI 0))) 2 (.int (nI 0))) 8 (.int (nI 0))) 35 (.int (nI 0))) 36 (.int (nI 0)))).set 34 (.int (nI 0)))), ((r 0), aB E 4096 (fun _ => 0))] := hD
  rw [mfs_set _ 34 _ (by decide)] at hP hD
  refine lv_aload_n hx hb dX12_opensText_38 rfl (lv_at hl 0 rfl) ?_
  refine cV_go (wr := []) (cM_runV (As := []) (rest := []) F (z4_X12_next l E h0 r g gx gy gw gt fx fy fw bx by_ bw hR hI hm1 hm2 hm3 hm4) yy_X12_next yi_X12_next wdM_RX12_323 hP hD hS hK hZ hA [0, 1] rfl rfl 0 12 rfl rfl rfl hl.1 rfl (Nat.le_of_ble_eq_true rfl) dX12_opensText_39 ⟨by decide, by decide⟩ ⟨by decide, by decide⟩) hP hD hS hA [0, 1] [] rfl rfl rfl (by decide) (fun u_203 H locs hw_202 hP hD hS => ?_)
  try dsimp only at hw_202
  have hP : va_P E.1 vwCl [(h0, ob 12 (mfs (updG (updG (updG (updG (updG (updG (updG (updG (updG g 7 (.int 0)) 1 (.int (nI 0))) 2 (.int (nI 0))) 8 (.int (nI 0))) 35 (.int (nI 0))) 36 (.int (nI 0))) 34 (.int (nI 0))) 4 (.int (nI 0))) 3 (.int (nI 0))))), ((r 0), aB E 4096 (fun _ => 0))] H := hP
  have hD : va_D A [(h0, ob 12 (mfs (updG (updG (updG (updG (updG (updG (updG (updG (updG g 7 (.int 0)) 1 (.int (nI 0))) 2 (.int (nI 0))) 8 (.int (nI 0))) 35 (.int (nI 0))) 36 (.int (nI 0))) 34 (.int (nI 0))) 4 (.int (nI 0))) 3 (.int (nI 0))))), ((r 0), aB E 4096 (fun _ => 0))] := hD
  exact cV_ret F hP hD hS hK () trivial [0, 1] rfl rfl dX12_opensText_42 (by decide) (by decide)
theorem yy_X12_opensText : cY yX12_opensText cX12_opensText 1 none 0 := ⟨wdK_X12_opensText, wdZ_RX12, by decide +kernel⟩
theorem yi_X12_opensText : cYi yX12_opensText := ⟨wdN_X12_opensText, wdS_X12_opensText⟩
theorem dX12_load_0 : decode cX12_load 0 = .ok (.aload_n 0, 1) := by decide +kernel
theorem dX12_load_1 : decode cX12_load 1 = .ok (.getfield 347, 3) := by decide +kernel
theorem dX12_load_4 : decode cX12_load 4 = .ok (.istore_n 1, 1) := by decide +kernel
theorem dX12_load_5 : decode cX12_load 5 = .ok (.aload_n 0, 1) := by decide +kernel
theorem dX12_load_6 : decode cX12_load 6 = .ok (.getfield 362, 3) := by decide +kernel
theorem dX12_load_9 : decode cX12_load 9 = .ok (.istore_n 2, 1) := by decide +kernel
theorem dX12_load_10 : decode cX12_load 10 = .ok (.aload_n 0, 1) := by decide +kernel
theorem dX12_load_11 : decode cX12_load 11 = .ok (.getfield 375, 3) := by decide +kernel
theorem dX12_load_14 : decode cX12_load 14 = .ok (.istore_n 3, 1) := by decide +kernel
theorem dX12_load_15 : decode cX12_load 15 = .ok (.aload_n 0, 1) := by decide +kernel
theorem dX12_load_16 : decode cX12_load 16 = .ok (.getfield 386, 3) := by decide +kernel
theorem dX12_load_19 : decode cX12_load 19 = .ok (.istore 4, 2) := by decide +kernel
theorem dX12_load_21 : decode cX12_load 21 = .ok (.aload_n 0, 1) := by decide +kernel
theorem dX12_load_22 : decode cX12_load 22 = .ok (.getfield 392, 3) := by decide +kernel
theorem dX12_load_25 : decode cX12_load 25 = .ok (.istore 5, 2) := by decide +kernel
theorem dX12_load_27 : decode cX12_load 27 = .ok (.aload_n 0, 1) := by decide +kernel
theorem dX12_load_28 : decode cX12_load 28 = .ok (.getfield 314, 3) := by decide +kernel
theorem dX12_load_31 : decode cX12_load 31 = .ok (.istore 6, 2) := by decide +kernel
theorem dX12_load_33 : decode cX12_load 33 = .ok (.aload_n 0, 1) := by decide +kernel
theorem dX12_load_34 : decode cX12_load 34 = .ok (.invokevirtual 425, 3) := by decide +kernel
theorem dX12_load_37 : decode cX12_load 37 = .ok (.iconst 1, 1) := by decide +kernel
theorem dX12_load_38 : decode cX12_load 38 = .ok (.istore 7, 2) := by decide +kernel
theorem dX12_load_40 : decode cX12_load 40 = .ok (.iload 7, 2) := by decide +kernel
theorem dX12_load_42 : decode cX12_load 42 = .ok (.ifCond .eq 80, 3) := by decide +kernel
theorem dX12_load_45 : decode cX12_load 45 = .ok (.aload_n 0, 1) := by decide +kernel
theorem dX12_load_46 : decode cX12_load 46 = .ok (.getfield 278, 3) := by decide +kernel
theorem dX12_load_49 : decode cX12_load 49 = .ok (.ifCond .eq 73, 3) := by decide +kernel
theorem dX12_load_52 : decode cX12_load 52 = .ok (.aload_n 0, 1) := by decide +kernel
theorem dX12_load_53 : decode cX12_load 53 = .ok (.iconst 0, 1) := by decide +kernel
theorem dX12_load_54 : decode cX12_load 54 = .ok (.invokevirtual 326, 3) := by decide +kernel
theorem dX12_load_57 : decode cX12_load 57 = .ok (.ifCond .eq 10, 3) := by decide +kernel
theorem dX12_load_60 : decode cX12_load 60 = .ok (.aload_n 0, 1) := by decide +kernel
theorem dX12_load_61 : decode cX12_load 61 = .ok (.invokevirtual 428, 3) := by decide +kernel
theorem dX12_load_64 : decode cX12_load 64 = .ok (.goto 53, 3) := by decide +kernel
theorem dX12_load_67 : decode cX12_load 67 = .ok (.aload_n 0, 1) := by decide +kernel
theorem dX12_load_68 : decode cX12_load 68 = .ok (.iconst 1, 1) := by decide +kernel
theorem dX12_load_69 : decode cX12_load 69 = .ok (.invokevirtual 326, 3) := by decide +kernel
theorem dX12_load_72 : decode cX12_load 72 = .ok (.ifCond .eq 10, 3) := by decide +kernel
theorem dX12_load_75 : decode cX12_load 75 = .ok (.aload_n 0, 1) := by decide +kernel
theorem dX12_load_76 : decode cX12_load 76 = .ok (.invokevirtual 431, 3) := by decide +kernel
theorem dX12_load_79 : decode cX12_load 79 = .ok (.goto 38, 3) := by decide +kernel
theorem dX12_load_82 : decode cX12_load 82 = .ok (.aload_n 0, 1) := by decide +kernel
theorem dX12_load_83 : decode cX12_load 83 = .ok (.iconst 2, 1) := by decide +kernel
theorem dX12_load_84 : decode cX12_load 84 = .ok (.invokevirtual 326, 3) := by decide +kernel
theorem dX12_load_87 : decode cX12_load 87 = .ok (.ifCond .eq 10, 3) := by decide +kernel
theorem dX12_load_90 : decode cX12_load 90 = .ok (.aload_n 0, 1) := by decide +kernel
theorem dX12_load_91 : decode cX12_load 91 = .ok (.invokevirtual 434, 3) := by decide +kernel
theorem dX12_load_94 : decode cX12_load 94 = .ok (.goto 23, 3) := by decide +kernel
theorem dX12_load_97 : decode cX12_load 97 = .ok (.aload_n 0, 1) := by decide +kernel
theorem dX12_load_98 : decode cX12_load 98 = .ok (.iconst 3, 1) := by decide +kernel
theorem dX12_load_99 : decode cX12_load 99 = .ok (.invokevirtual 326, 3) := by decide +kernel
theorem dX12_load_102 : decode cX12_load 102 = .ok (.ifCond .eq 10, 3) := by decide +kernel
theorem dX12_load_105 : decode cX12_load 105 = .ok (.aload_n 0, 1) := by decide +kernel
theorem dX12_load_106 : decode cX12_load 106 = .ok (.invokevirtual 437, 3) := by decide +kernel
theorem dX12_load_109 : decode cX12_load 109 = .ok (.goto 8, 3) := by decide +kernel
theorem dX12_load_112 : decode cX12_load 112 = .ok (.aload_n 0, 1) := by decide +kernel
theorem dX12_load_113 : decode cX12_load 113 = .ok (.iconst 1, 1) := by decide +kernel
theorem dX12_load_114 : decode cX12_load 114 = .ok (.invokevirtual 317, 3) := by decide +kernel
theorem dX12_load_117 : decode cX12_load 117 = .ok (.istore 7, 2) := by decide +kernel
theorem dX12_load_119 : decode cX12_load 119 = .ok (.goto (-79), 3) := by decide +kernel
theorem dX12_load_122 : decode cX12_load 122 = .ok (.iload 7, 2) := by decide +kernel
theorem dX12_load_124 : decode cX12_load 124 = .ok (.ifCond .eq 5, 3) := by decide +kernel
theorem dX12_load_127 : decode cX12_load 127 = .ok (.iconst 0, 1) := by decide +kernel
theorem dX12_load_128 : decode cX12_load 128 = .ok (.ireturn, 1) := by decide +kernel
theorem dX12_load_129 : decode cX12_load 129 = .ok (.aload_n 0, 1) := by decide +kernel
theorem dX12_load_130 : decode cX12_load 130 = .ok (.iload_n 1, 1) := by decide +kernel
theorem dX12_load_131 : decode cX12_load 131 = .ok (.putfield 347, 3) := by decide +kernel
theorem dX12_load_134 : decode cX12_load 134 = .ok (.aload_n 0, 1) := by decide +kernel
theorem dX12_load_135 : decode cX12_load 135 = .ok (.iload_n 2, 1) := by decide +kernel
theorem dX12_load_136 : decode cX12_load 136 = .ok (.putfield 362, 3) := by decide +kernel
theorem dX12_load_139 : decode cX12_load 139 = .ok (.aload_n 0, 1) := by decide +kernel
theorem dX12_load_140 : decode cX12_load 140 = .ok (.iload_n 3, 1) := by decide +kernel
theorem dX12_load_141 : decode cX12_load 141 = .ok (.putfield 375, 3) := by decide +kernel
theorem dX12_load_144 : decode cX12_load 144 = .ok (.aload_n 0, 1) := by decide +kernel
theorem dX12_load_145 : decode cX12_load 145 = .ok (.iload 4, 2) := by decide +kernel
theorem dX12_load_147 : decode cX12_load 147 = .ok (.putfield 386, 3) := by decide +kernel
theorem dX12_load_150 : decode cX12_load 150 = .ok (.aload_n 0, 1) := by decide +kernel
theorem dX12_load_151 : decode cX12_load 151 = .ok (.iload 5, 2) := by decide +kernel
theorem dX12_load_153 : decode cX12_load 153 = .ok (.putfield 392, 3) := by decide +kernel
theorem dX12_load_156 : decode cX12_load 156 = .ok (.aload_n 0, 1) := by decide +kernel
theorem dX12_load_157 : decode cX12_load 157 = .ok (.iload 6, 2) := by decide +kernel
theorem dX12_load_159 : decode cX12_load 159 = .ok (.putfield 314, 3) := by decide +kernel
theorem dX12_load_162 : decode cX12_load 162 = .ok (.bipush (-2), 2) := by decide +kernel
theorem dX12_load_164 : decode cX12_load 164 = .ok (.aload_n 0, 1) := by decide +kernel
theorem dX12_load_165 : decode cX12_load 165 = .ok (.getfield 275, 3) := by decide +kernel
theorem dX12_load_168 : decode cX12_load 168 = .ok (.isub, 1) := by decide +kernel
theorem dX12_load_169 : decode cX12_load 169 = .ok (.ireturn, 1) := by decide +kernel
abbrev rm_p_X12_load : Room := { frames := 3, cells := 0, slots := 0, locals := 63 }
set_option maxHeartbeats 4000000 in
set_option maxRecDepth 100000 in
theorem p_X12_load (l : Launch) (E : cE) (h0 : Nat) (r : Nat → Nat) (g : Nat → Value) (gx : Nat → Int32) (gy : Nat → Int32) (gw : Nat → Int32) (gt : Nat → Int32) (fx : Nat → Int32) (fy : Nat → Int32) (fw : Nat → Int32) (bx : Nat → Int32) (by_ : Nat → Int32) (bw : Nat → Int32) (hR : mOK r g) (hI : ∀ k, k < 116 → mRef k = false → g k = mI k) (hm1 : flo (stC 0) (2 * 4) gx gy gw) (hm2 : ∀ d, d < 2 * 4 → gt d = 0) (hm3 : ∀ d, d < 2 * 4 → fx d = gx d ∧ fy d = gy d ∧ fw d = gw d) (hm4 : ∀ d, d < 2 * 4 → bx d = gx d ∧ by_ d = gy d ∧ bw d = gw d) : cM l E yX12_load cX12_load 8 (some .int) rm_p_X12_load [.ref h0] [(h0, ob 12 (mfs g)), ((r 0), aB E 4096 (fun _ => 0))] (qI E (fun (r : Int32) (_u : Unit) => r = nI 0) (fun _ => [])) := by
  refine cM_of (by decide) (Nat.le_of_ble_eq_true rfl) ?_
  intro p e s m below meth c ls A F hA hS hP hD hK hZ hl
  obtain ⟨hx, hb, hr, hml, hown, hts, hlk, hin⟩ := id F
  have hown : s.vm.findClass RX12 = some m.cls := hown
  have hl : lv_has ls 8 [(0, .ref h0)] := hl
  refine lv_aload_n hx hb dX12_load_0 rfl (lv_at hl 0 rfl) ?_
  refine va_get (D := E.1) (ci := 12) (v := .int 0) (C := RX12) (T := TX12) (N := 116) hx hb hts iX12 hown hK hP 0 rfl rfl 13 (by decide) (hts _ wdF_RX12_347) (fun _ h9 => h9) ((mfs_get _ 13 (by decide)).trans (congrArg some (show (g) 13 = .int 0 from (hI 13 (by decide) rfl)))) dX12_load_1 ?_
  refine lv_istore_n (lv' := [(1, .int 0), (0, .ref h0)]) hx hb dX12_load_4 rfl hl (by decide) rfl (fun ls hl => ?_)
  refine lv_aload_n hx hb dX12_load_5 rfl (lv_at hl 1 rfl) ?_
  refine va_get (D := E.1) (ci := 12) (v := .int 0) (C := RX12) (T := TX12) (N := 116) hx hb hts iX12 hown hK hP 0 rfl rfl 14 (by decide) (hts _ wdF_RX12_362) (fun _ h9 => h9) ((mfs_get _ 14 (by decide)).trans (congrArg some (show (g) 14 = .int 0 from (hI 14 (by decide) rfl)))) dX12_load_6 ?_
  refine lv_istore_n (lv' := [(2, .int 0), (1, .int 0), (0, .ref h0)]) hx hb dX12_load_9 rfl hl (by decide) rfl (fun ls hl => ?_)
  refine lv_aload_n hx hb dX12_load_10 rfl (lv_at hl 2 rfl) ?_
  refine va_get (D := E.1) (ci := 12) (v := .int 0) (C := RX12) (T := TX12) (N := 116) hx hb hts iX12 hown hK hP 0 rfl rfl 15 (by decide) (hts _ wdF_RX12_375) (fun _ h9 => h9) ((mfs_get _ 15 (by decide)).trans (congrArg some (show (g) 15 = .int 0 from (hI 15 (by decide) rfl)))) dX12_load_11 ?_
  refine lv_istore_n (lv' := [(3, .int 0), (2, .int 0), (1, .int 0), (0, .ref h0)]) hx hb dX12_load_14 rfl hl (by decide) rfl (fun ls hl => ?_)
  refine lv_aload_n hx hb dX12_load_15 rfl (lv_at hl 3 rfl) ?_
  refine va_get (D := E.1) (ci := 12) (v := .int 0) (C := RX12) (T := TX12) (N := 116) hx hb hts iX12 hown hK hP 0 rfl rfl 16 (by decide) (hts _ wdF_RX12_386) (fun _ h9 => h9) ((mfs_get _ 16 (by decide)).trans (congrArg some (show (g) 16 = .int 0 from (hI 16 (by decide) rfl)))) dX12_load_16 ?_
  refine lv_istore (lv' := [(4, .int 0), (3, .int 0), (2, .int 0), (1, .int 0), (0, .ref h0)]) hx hb dX12_load_19 hl (by decide) rfl (fun ls hl => ?_)
  refine lv_aload_n hx hb dX12_load_21 rfl (lv_at hl 4 rfl) ?_
  refine va_get (D := E.1) (ci := 12) (v := .int 0) (C := RX12) (T := TX12) (N := 116) hx hb hts iX12 hown hK hP 0 rfl rfl 17 (by decide) (hts _ wdF_RX12_392) (fun _ h9 => h9) ((mfs_get _ 17 (by decide)).trans (congrArg some (show (g) 17 = .int 0 from (hI 17 (by decide) rfl)))) dX12_load_22 ?_
  refine lv_istore (lv' := [(5, .int 0), (4, .int 0), (3, .int 0), (2, .int 0), (1, .int 0), (0, .ref h0)]) hx hb dX12_load_25 hl (by decide) rfl (fun ls hl => ?_)
  refine lv_aload_n hx hb dX12_load_27 rfl (lv_at hl 5 rfl) ?_
  refine va_get (D := E.1) (ci := 12) (v := .int 0) (C := RX12) (T := TX12) (N := 116) hx hb hts iX12 hown hK hP 0 rfl rfl 33 (by decide) (hts _ wdF_RX12_314) (fun _ h9 => h9) ((mfs_get _ 33 (by decide)).trans (congrArg some (show (g) 33 = .int 0 from (hI 33 (by decide) rfl)))) dX12_load_28 ?_
  refine lv_istore (lv' := [(6, .int 0), (5, .int 0), (4, .int 0), (3, .int 0), (2, .int 0), (1, .int 0), (0, .ref h0)]) hx hb dX12_load_31 hl (by decide) rfl (fun ls hl => ?_)
  refine lv_aload_n hx hb dX12_load_33 rfl (lv_at hl 6 rfl) ?_
  refine cV_go (wr := []) (cM_runV (As := []) (rest := []) F (z3_X12_opensText l E h0 r g gx gy gw gt fx fy fw bx by_ bw hR hI hm1 hm2 hm3 hm4) yy_X12_opensText yi_X12_opensText wdM_RX12_425 hP hD hS hK hZ hA [0, 1] rfl rfl 0 12 rfl rfl rfl hl.1 rfl (Nat.le_of_ble_eq_true rfl) dX12_load_34 ⟨by decide, by decide⟩ ⟨by decide, by decide⟩) hP hD hS hA [0, 1] [] rfl rfl rfl (by decide) (fun u_206 H locs hw_205 hP hD hS => ?_)
  try dsimp only at hw_205
  have hP : va_P E.1 vwCl [(h0, ob 12 (mfs (updG (updG (updG (updG (updG (updG (updG (updG (updG g 7 (.int 0)) 1 (.int (nI 0))) 2 (.int (nI 0))) 8 (.int (nI 0))) 35 (.int (nI 0))) 36 (.int (nI 0))) 34 (.int (nI 0))) 4 (.int (nI 0))) 3 (.int (nI 0))))), ((r 0), aB E 4096 (fun _ => 0))] H := hP
  have hD : va_D A [(h0, ob 12 (mfs (updG (updG (updG (updG (updG (updG (updG (updG (updG g 7 (.int 0)) 1 (.int (nI 0))) 2 (.int (nI 0))) 8 (.int (nI 0))) 35 (.int (nI 0))) 36 (.int (nI 0))) 34 (.int (nI 0))) 4 (.int (nI 0))) 3 (.int (nI 0))))), ((r 0), aB E 4096 (fun _ => 0))] := hD
  refine lv_iconst (v := nI 1) hx hb dX12_load_37 (by decide) ?_
  refine lv_istore (lv' := [(7, .int (nI 1)), (6, .int 0), (5, .int 0), (4, .int 0), (3, .int 0), (2, .int 0), (1, .int 0), (0, .ref h0)]) hx hb dX12_load_38 hl (by decide) rfl (fun ls hl => ?_)
  refine lv_iload hx hb dX12_load_40 (lv_at hl 0 rfl) ?_
  refine lv_if_eq (tgt := 122) hx hb dX12_load_42 (by decide) (fun c_208 => absurd c_208 (by decide)) (fun c_208 => ?_)
  refine lv_aload_n hx hb dX12_load_45 rfl (lv_at hl 7 rfl) ?_
  refine va_get (D := E.1) (ci := 12) (v := .int (nI 0)) (C := RX12) (T := TX12) (N := 116) hx hb hts iX12 hown hK hP 0 rfl rfl 3 (by decide) (hts _ wdF_RX12_278) (fun _ h9 => h9) ((mfs_get _ 3 (by decide)).trans (congrArg some (show (updG (updG (updG (updG (updG (updG (updG (updG (updG g 7 (.int 0)) 1 (.int (nI 0))) 2 (.int (nI 0))) 8 (.int (nI 0))) 35 (.int (nI 0))) 36 (.int (nI 0))) 34 (.int (nI 0))) 4 (.int (nI 0))) 3 (.int (nI 0))) 3 = .int (nI 0) from rfl))) dX12_load_46 ?_
  refine lv_if_eq (tgt := 122) hx hb dX12_load_49 (by decide) (fun c_209 => ?_) (fun c_209 => absurd (by decide) c_209)
  refine lv_iload hx hb dX12_load_122 (lv_at hl 0 rfl) ?_
  refine lv_if_eq (tgt := 129) hx hb dX12_load_124 (by decide) (fun c_210 => absurd c_210 (by decide)) (fun c_210 => ?_)
  refine lv_iconst (v := nI 0) hx hb dX12_load_127 (by decide) ?_
  exact cI_ret F hP hD hS hK () rfl [] rfl rfl dX12_load_128 (by decide) (by decide)
theorem yy_X12_load : cY yX12_load cX12_load 8 (some .int) 0 := ⟨wdK_X12_load, wdZ_RX12, by decide +kernel⟩
theorem yi_X12_load : cYi yX12_load := ⟨wdN_X12_load, wdS_X12_load⟩
abbrev rm_z12_X12_byteAt : Room := { frames := 0, cells := 0, slots := 0, locals := 0 }
set_option maxHeartbeats 4000000 in
set_option maxRecDepth 100000 in
theorem z12_X12_byteAt (l : Launch) (E : cE) (h0 : Nat) (r : Nat → Nat) (g : Nat → Value) (gx : Nat → Int32) (gy : Nat → Int32) (gw : Nat → Int32) (gt : Nat → Int32) (fx : Nat → Int32) (fy : Nat → Int32) (fw : Nat → Int32) (bx : Nat → Int32) (by_ : Nat → Int32) (bw : Nat → Int32) (hR : mOK r g) (hI : ∀ k, k < 116 → mRef k = false → g k = mI k) (hm1 : flo (stC 0) (2 * 4) gx gy gw) (hm2 : ∀ d, d < 2 * 4 → gt d = 0) (hm3 : ∀ d, d < 2 * 4 → fx d = gx d ∧ fy d = gy d ∧ fw d = gw d) (hm4 : ∀ d, d < 2 * 4 → bx d = gx d ∧ by_ d = gy d ∧ bw d = gw d) : cM l E yX12_byteAt cX12_byteAt 2 (some .int) rm_z12_X12_byteAt [.ref h0, .int (nI 0)] [(h0, ob 12 (mfs (updG (updG (updG (updG (updG (updG (updG g 7 (.int 0)) 1 (.int (nI 0))) 2 (.int (nI 0))) 8 (.int (nI 0))) 35 (.int (nI 0))) 36 (.int (nI 0))) 34 (.int (nI 0))))), ((r 0), aB E 4096 (fun _ => 0)), ((r 31), aI E 10100 (fun _ => 0))] (qI E (fun (r : Int32) (_u : Unit) => r = (-1)) (fun _ => [(h0, ob 12 (mfs (updG (updG (updG (updG (updG (updG (updG g 7 (.int 0)) 1 (.int (nI 0))) 2 (.int (nI 0))) 8 (.int (nI 0))) 35 (.int (nI 0))) 36 (.int (nI 0))) 34 (.int (nI 0))))), ((r 0), aB E 4096 (fun _ => 0)), ((r 31), aI E 10100 (fun _ => 0))])) := by
  refine cM_of (by decide) (Nat.le_of_ble_eq_true rfl) ?_
  intro p e s m below meth c ls A F hA hS hP hD hK hZ hl
  obtain ⟨hx, hb, hr, hml, hown, hts, hlk, hin⟩ := id F
  have hown : s.vm.findClass RX12 = some m.cls := hown
  have hl : lv_has ls 2 [(0, .ref h0), (1, .int (nI 0))] := hl
  refine lv_iload_n hx hb dX12_byteAt_0 rfl (lv_at hl 1 rfl) ?_
  refine lv_aload_n hx hb dX12_byteAt_1 rfl (lv_at hl 0 rfl) ?_
  refine va_get (D := E.1) (ci := 12) (v := .int 0) (C := RX12) (T := TX12) (N := 116) hx hb hts iX12 hown hK hP 0 rfl rfl 7 (by decide) (hts _ wdF_RX12_261) (fun _ h9 => h9) ((mfs_get _ 7 (by decide)).trans (congrArg some (show (updG (updG (updG (updG (updG (updG (updG g 7 (.int 0)) 1 (.int (nI 0))) 2 (.int (nI 0))) 8 (.int (nI 0))) 35 (.int (nI 0))) 36 (.int (nI 0))) 34 (.int (nI 0))) 7 = .int 0 from rfl))) dX12_byteAt_2 ?_
  refine lv_icmp_ge (tgt := 21) hx hb dX12_byteAt_5 (by decide) (fun c_211 => ?_) (fun c_211 => absurd (by decide) c_211)
  refine lv_iconst (v := (-1)) hx hb dX12_byteAt_21 (by decide) ?_
  exact cI_ret F hP hD hS hK () rfl [0, 1, 2] rfl rfl dX12_byteAt_22 (by decide) (by decide)
abbrev rm_z13_X12_isBlank : Room := { frames := 0, cells := 0, slots := 0, locals := 0 }
set_option maxHeartbeats 4000000 in
set_option maxRecDepth 100000 in
theorem z13_X12_isBlank (l : Launch) (E : cE) (h0 : Nat) (r : Nat → Nat) (g : Nat → Value) (gx : Nat → Int32) (gy : Nat → Int32) (gw : Nat → Int32) (gt : Nat → Int32) (fx : Nat → Int32) (fy : Nat → Int32) (fw : Nat → Int32) (bx : Nat → Int32) (by_ : Nat → Int32) (bw : Nat → Int32) (hR : mOK r g) (hI : ∀ k, k < 116 → mRef k = false → g k = mI k) (hm1 : flo (stC 0) (2 * 4) gx gy gw) (hm2 : ∀ d, d < 2 * 4 → gt d = 0) (hm3 : ∀ d, d < 2 * 4 → fx d = gx d ∧ fy d = gy d ∧ fw d = gw d) (hm4 : ∀ d, d < 2 * 4 → bx d = gx d ∧ by_ d = gy d ∧ bw d = gw d) : cM l E yX12_isBlank cX12_isBlank 1 (some .boolean) rm_z13_X12_isBlank [.int (-1)] [(h0, ob 12 (mfs (updG (updG (updG (updG (updG (updG (updG g 7 (.int 0)) 1 (.int (nI 0))) 2 (.int (nI 0))) 8 (.int (nI 0))) 35 (.int (nI 0))) 36 (.int (nI 0))) 34 (.int (nI 0))))), ((r 0), aB E 4096 (fun _ => 0)), ((r 31), aI E 10100 (fun _ => 0))] (qI E (fun (r : Int32) (_u : Unit) => r = nI 0) (fun _ => [(h0, ob 12 (mfs (updG (updG (updG (updG (updG (updG (updG g 7 (.int 0)) 1 (.int (nI 0))) 2 (.int (nI 0))) 8 (.int (nI 0))) 35 (.int (nI 0))) 36 (.int (nI 0))) 34 (.int (nI 0))))), ((r 0), aB E 4096 (fun _ => 0)), ((r 31), aI E 10100 (fun _ => 0))])) := by
  refine cM_of (by decide) (Nat.le_of_ble_eq_true rfl) ?_
  intro p e s m below meth c ls A F hA hS hP hD hK hZ hl
  obtain ⟨hx, hb, hr, hml, hown, hts, hlk, hin⟩ := id F
  have hown : s.vm.findClass RX12 = some m.cls := hown
  have hl : lv_has ls 1 [(0, .int (-1))] := hl
  refine lv_iload_n hx hb dX12_isBlank_0 rfl (lv_at hl 0 rfl) ?_
  refine lv_bipush (v := nI 9) hx hb dX12_isBlank_1 (by decide) ?_
  refine lv_icmp_eq (tgt := 24) hx hb dX12_isBlank_3 (by decide) (fun c_215 => absurd c_215 (by decide)) (fun c_215 => ?_)
  refine lv_iload_n hx hb dX12_isBlank_6 rfl (lv_at hl 0 rfl) ?_
  refine lv_bipush (v := nI 10) hx hb dX12_isBlank_7 (by decide) ?_
  refine lv_icmp_eq (tgt := 24) hx hb dX12_isBlank_9 (by decide) (fun c_216 => absurd c_216 (by decide)) (fun c_216 => ?_)
  refine lv_iload_n hx hb dX12_isBlank_12 rfl (lv_at hl 0 rfl) ?_
  refine lv_bipush (v := nI 13) hx hb dX12_isBlank_13 (by decide) ?_
  refine lv_icmp_eq (tgt := 24) hx hb dX12_isBlank_15 (by decide) (fun c_217 => absurd c_217 (by decide)) (fun c_217 => ?_)
  refine lv_iload_n hx hb dX12_isBlank_18 rfl (lv_at hl 0 rfl) ?_
  refine lv_bipush (v := nI 32) hx hb dX12_isBlank_19 (by decide) ?_
  refine lv_icmp_ne (tgt := 28) hx hb dX12_isBlank_21 (by decide) (fun c_218 => ?_) (fun c_218 => absurd c_218 (by decide))
  refine lv_iconst (v := nI 0) hx hb dX12_isBlank_28 (by decide) ?_
  exact cB_ret F hP hD hS hK (by decide) () rfl [0, 1, 2] rfl rfl dX12_isBlank_29 (by decide) (by decide)
abbrev rm_z14_X12_byteAt : Room := { frames := 0, cells := 0, slots := 0, locals := 0 }
set_option maxHeartbeats 4000000 in
set_option maxRecDepth 100000 in
theorem z14_X12_byteAt (l : Launch) (E : cE) (h0 : Nat) (r : Nat → Nat) (g : Nat → Value) (gx : Nat → Int32) (gy : Nat → Int32) (gw : Nat → Int32) (gt : Nat → Int32) (fx : Nat → Int32) (fy : Nat → Int32) (fw : Nat → Int32) (bx : Nat → Int32) (by_ : Nat → Int32) (bw : Nat → Int32) (hR : mOK r g) (hI : ∀ k, k < 116 → mRef k = false → g k = mI k) (hm1 : flo (stC 0) (2 * 4) gx gy gw) (hm2 : ∀ d, d < 2 * 4 → gt d = 0) (hm3 : ∀ d, d < 2 * 4 → fx d = gx d ∧ fy d = gy d ∧ fw d = gw d) (hm4 : ∀ d, d < 2 * 4 → bx d = gx d ∧ by_ d = gy d ∧ bw d = gw d) : cM l E yX12_byteAt cX12_byteAt 2 (some .int) rm_z14_X12_byteAt [.ref h0, .int (nI 0)] [(h0, ob 12 (mfs (updG (updG (updG (updG (updG (updG (updG g 7 (.int 0)) 1 (.int (nI 0))) 2 (.int (nI 0))) 8 (.int (nI 0))) 35 (.int (nI 0))) 36 (.int (nI 0))) 34 (.int (nI 0))))), ((r 0), aB E 4096 (fun _ => 0)), ((r 31), aI E 10100 (fun _ => 0))] (qI E (fun (r : Int32) (_u : Unit) => r = (-1)) (fun _ => [(h0, ob 12 (mfs (updG (updG (updG (updG (updG (updG (updG g 7 (.int 0)) 1 (.int (nI 0))) 2 (.int (nI 0))) 8 (.int (nI 0))) 35 (.int (nI 0))) 36 (.int (nI 0))) 34 (.int (nI 0))))), ((r 0), aB E 4096 (fun _ => 0)), ((r 31), aI E 10100 (fun _ => 0))])) := by
  refine cM_of (by decide) (Nat.le_of_ble_eq_true rfl) ?_
  intro p e s m below meth c ls A F hA hS hP hD hK hZ hl
  obtain ⟨hx, hb, hr, hml, hown, hts, hlk, hin⟩ := id F
  have hown : s.vm.findClass RX12 = some m.cls := hown
  have hl : lv_has ls 2 [(0, .ref h0), (1, .int (nI 0))] := hl
  refine lv_iload_n hx hb dX12_byteAt_0 rfl (lv_at hl 1 rfl) ?_
  refine lv_aload_n hx hb dX12_byteAt_1 rfl (lv_at hl 0 rfl) ?_
  refine va_get (D := E.1) (ci := 12) (v := .int 0) (C := RX12) (T := TX12) (N := 116) hx hb hts iX12 hown hK hP 0 rfl rfl 7 (by decide) (hts _ wdF_RX12_261) (fun _ h9 => h9) ((mfs_get _ 7 (by decide)).trans (congrArg some (show (updG (updG (updG (updG (updG (updG (updG g 7 (.int 0)) 1 (.int (nI 0))) 2 (.int (nI 0))) 8 (.int (nI 0))) 35 (.int (nI 0))) 36 (.int (nI 0))) 34 (.int (nI 0))) 7 = .int 0 from rfl))) dX12_byteAt_2 ?_
  refine lv_icmp_ge (tgt := 21) hx hb dX12_byteAt_5 (by decide) (fun c_223 => ?_) (fun c_223 => absurd (by decide) c_223)
  refine lv_iconst (v := (-1)) hx hb dX12_byteAt_21 (by decide) ?_
  exact cI_ret F hP hD hS hK () rfl [0, 1, 2] rfl rfl dX12_byteAt_22 (by decide) (by decide)
abbrev rm_z15_X12_byteAt : Room := { frames := 0, cells := 0, slots := 0, locals := 0 }
set_option maxHeartbeats 4000000 in
set_option maxRecDepth 100000 in
theorem z15_X12_byteAt (l : Launch) (E : cE) (h0 : Nat) (r : Nat → Nat) (g : Nat → Value) (gx : Nat → Int32) (gy : Nat → Int32) (gw : Nat → Int32) (gt : Nat → Int32) (fx : Nat → Int32) (fy : Nat → Int32) (fw : Nat → Int32) (bx : Nat → Int32) (by_ : Nat → Int32) (bw : Nat → Int32) (hR : mOK r g) (hI : ∀ k, k < 116 → mRef k = false → g k = mI k) (hm1 : flo (stC 0) (2 * 4) gx gy gw) (hm2 : ∀ d, d < 2 * 4 → gt d = 0) (hm3 : ∀ d, d < 2 * 4 → fx d = gx d ∧ fy d = gy d ∧ fw d = gw d) (hm4 : ∀ d, d < 2 * 4 → bx d = gx d ∧ by_ d = gy d ∧ bw d = gw d) : cM l E yX12_byteAt cX12_byteAt 2 (some .int) rm_z15_X12_byteAt [.ref h0, .int (nI 0)] [(h0, ob 12 (mfs (updG (updG (updG (updG (updG (updG (updG (updG g 7 (.int 0)) 1 (.int (nI 0))) 2 (.int (nI 0))) 8 (.int (nI 0))) 35 (.int (nI 0))) 36 (.int (nI 0))) 34 (.int (nI 0))) 4 (.int (nI 0))))), ((r 0), aB E 4096 (fun _ => 0)), ((r 31), aI E 10100 (fun _ => 0))] (qI E (fun (r : Int32) (_u : Unit) => r = (-1)) (fun _ => [(h0, ob 12 (mfs (updG (updG (updG (updG (updG (updG (updG (updG g 7 (.int 0)) 1 (.int (nI 0))) 2 (.int (nI 0))) 8 (.int (nI 0))) 35 (.int (nI 0))) 36 (.int (nI 0))) 34 (.int (nI 0))) 4 (.int (nI 0))))), ((r 0), aB E 4096 (fun _ => 0)), ((r 31), aI E 10100 (fun _ => 0))])) := by
  refine cM_of (by decide) (Nat.le_of_ble_eq_true rfl) ?_
  intro p e s m below meth c ls A F hA hS hP hD hK hZ hl
  obtain ⟨hx, hb, hr, hml, hown, hts, hlk, hin⟩ := id F
  have hown : s.vm.findClass RX12 = some m.cls := hown
  have hl : lv_has ls 2 [(0, .ref h0), (1, .int (nI 0))] := hl
  refine lv_iload_n hx hb dX12_byteAt_0 rfl (lv_at hl 1 rfl) ?_
  refine lv_aload_n hx hb dX12_byteAt_1 rfl (lv_at hl 0 rfl) ?_
  refine va_get (D := E.1) (ci := 12) (v := .int 0) (C := RX12) (T := TX12) (N := 116) hx hb hts iX12 hown hK hP 0 rfl rfl 7 (by decide) (hts _ wdF_RX12_261) (fun _ h9 => h9) ((mfs_get _ 7 (by decide)).trans (congrArg some (show (updG (updG (updG (updG (updG (updG (updG (updG g 7 (.int 0)) 1 (.int (nI 0))) 2 (.int (nI 0))) 8 (.int (nI 0))) 35 (.int (nI 0))) 36 (.int (nI 0))) 34 (.int (nI 0))) 4 (.int (nI 0))) 7 = .int 0 from rfl))) dX12_byteAt_2 ?_
  refine lv_icmp_ge (tgt := 21) hx hb dX12_byteAt_5 (by decide) (fun c_228 => ?_) (fun c_228 => absurd (by decide) c_228)
  refine lv_iconst (v := (-1)) hx hb dX12_byteAt_21 (by decide) ?_
  exact cI_ret F hP hD hS hK () rfl [0, 1, 2] rfl rfl dX12_byteAt_22 (by decide) (by decide)
abbrev rm_z11_X12_next : Room := { frames := 1, cells := 0, slots := 0, locals := 21 }
set_option maxHeartbeats 4000000 in
set_option maxRecDepth 100000 in
theorem z11_X12_next (l : Launch) (E : cE) (h0 : Nat) (r : Nat → Nat) (g : Nat → Value) (gx : Nat → Int32) (gy : Nat → Int32) (gw : Nat → Int32) (gt : Nat → Int32) (fx : Nat → Int32) (fy : Nat → Int32) (fw : Nat → Int32) (bx : Nat → Int32) (by_ : Nat → Int32) (bw : Nat → Int32) (hR : mOK r g) (hI : ∀ k, k < 116 → mRef k = false → g k = mI k) (hm1 : flo (stC 0) (2 * 4) gx gy gw) (hm2 : ∀ d, d < 2 * 4 → gt d = 0) (hm3 : ∀ d, d < 2 * 4 → fx d = gx d ∧ fy d = gy d ∧ fw d = gw d) (hm4 : ∀ d, d < 2 * 4 → bx d = gx d ∧ by_ d = gy d ∧ bw d = gw d) : cM l E yX12_next cX12_next 3 none rm_z11_X12_next [.ref h0] [(h0, ob 12 (mfs (updG (updG (updG (updG (updG (updG (updG g 7 (.int 0)) 1 (.int (nI 0))) 2 (.int (nI 0))) 8 (.int (nI 0))) 35 (.int (nI 0))) 36 (.int (nI 0))) 34 (.int (nI 0))))), ((r 0), aB E 4096 (fun _ => 0)), ((r 31), aI E 10100 (fun _ => 0))] (qV E (fun (_u : Unit) => True) (fun _ => [(h0, ob 12 (mfs (updG (updG (updG (updG (updG (updG (updG (updG (updG g 7 (.int 0)) 1 (.int (nI 0))) 2 (.int (nI 0))) 8 (.int (nI 0))) 35 (.int (nI 0))) 36 (.int (nI 0))) 34 (.int (nI 0))) 4 (.int (nI 0))) 3 (.int (nI 0))))), ((r 0), aB E 4096 (fun _ => 0)), ((r 31), aI E 10100 (fun _ => 0))])) := by
  refine cM_of (by decide) (Nat.le_of_ble_eq_true rfl) ?_
  intro p e s m below meth c ls A F hA hS hP hD hK hZ hl
  obtain ⟨hx, hb, hr, hml, hown, hts, hlk, hin⟩ := id F
  have hown : s.vm.findClass RX12 = some m.cls := hown
  have hl : lv_has ls 3 [(0, .ref h0)] := hl
  refine lv_aload_n hx hb dX12_next_0 rfl (lv_at hl 0 rfl) ?_
  refine lv_aload_n hx hb dX12_next_1 rfl (lv_at hl 0 rfl) ?_
  refine va_get (D := E.1) (ci := 12) (v := .int (nI 0)) (C := RX12) (T := TX12) (N := 116) hx hb hts iX12 hown hK hP 0 rfl rfl 2 (by decide) (hts _ wdF_RX12_264) (fun _ h9 => h9) ((mfs_get _ 2 (by decide)).trans (congrArg some (show (updG (updG (updG (updG (updG (updG (updG g 7 (.int 0)) 1 (.int (nI 0))) 2 (.int (nI 0))) 8 (.int (nI 0))) 35 (.int (nI 0))) 36 (.int (nI 0))) 34 (.int (nI 0))) 2 = .int (nI 0) from rfl))) dX12_next_2 ?_
  refine cI_go (wr := []) (cM_runV (As := [.int (nI 0)]) (rest := []) F (z12_X12_byteAt l E h0 r g gx gy gw gt fx fy fw bx by_ bw hR hI hm1 hm2 hm3 hm4) yy_X12_byteAt yi_X12_byteAt wdM_RX12_267 hP hD hS hK hZ hA [0, 1, 2] rfl rfl 0 12 rfl rfl rfl hl.1 rfl (Nat.le_of_ble_eq_true rfl) dX12_next_5 ⟨by decide, by decide⟩ ⟨by decide, by decide⟩) hP hD hS hA [0, 1, 2] [] rfl rfl rfl (by decide) (fun r_214 u_213 H locs hw_212 hP hD hS => ?_)
  try dsimp only at hw_212
  have hP : va_P E.1 vwCl [(h0, ob 12 (mfs (updG (updG (updG (updG (updG (updG (updG g 7 (.int 0)) 1 (.int (nI 0))) 2 (.int (nI 0))) 8 (.int (nI 0))) 35 (.int (nI 0))) 36 (.int (nI 0))) 34 (.int (nI 0))))), ((r 0), aB E 4096 (fun _ => 0)), ((r 31), aI E 10100 (fun _ => 0))] H := hP
  have hD : va_D A [(h0, ob 12 (mfs (updG (updG (updG (updG (updG (updG (updG g 7 (.int 0)) 1 (.int (nI 0))) 2 (.int (nI 0))) 8 (.int (nI 0))) 35 (.int (nI 0))) 36 (.int (nI 0))) 34 (.int (nI 0))))), ((r 0), aB E 4096 (fun _ => 0)), ((r 31), aI E 10100 (fun _ => 0))] := hD
  subst hw_212
  refine cI_go (wr := []) (cM_runS (As := [.int (-1)]) (rest := []) F (z13_X12_isBlank l E h0 r g gx gy gw gt fx fy fw bx by_ bw hR hI hm1 hm2 hm3 hm4) yy_X12_isBlank wdT_X12_isBlank wdM_RX12_271 hP hD hS hK hZ hA [0, 1, 2] rfl rfl rfl hl.1 rfl (Nat.le_of_ble_eq_true rfl) dX12_next_8 ⟨by decide, by decide⟩ ⟨by decide, by decide⟩) hP hD hS hA [0, 1, 2] [] rfl rfl rfl (by decide) (fun r_221 u_220 H locs hw_219 hP hD hS => ?_)
  try dsimp only at hw_219
  have hP : va_P E.1 vwCl [(h0, ob 12 (mfs (updG (updG (updG (updG (updG (updG (updG g 7 (.int 0)) 1 (.int (nI 0))) 2 (.int (nI 0))) 8 (.int (nI 0))) 35 (.int (nI 0))) 36 (.int (nI 0))) 34 (.int (nI 0))))), ((r 0), aB E 4096 (fun _ => 0)), ((r 31), aI E 10100 (fun _ => 0))] H := hP
  have hD : va_D A [(h0, ob 12 (mfs (updG (updG (updG (updG (updG (updG (updG g 7 (.int 0)) 1 (.int (nI 0))) 2 (.int (nI 0))) 8 (.int (nI 0))) 35 (.int (nI 0))) 36 (.int (nI 0))) 34 (.int (nI 0))))), ((r 0), aB E 4096 (fun _ => 0)), ((r 31), aI E 10100 (fun _ => 0))] := hD
  subst hw_219
  refine lv_if_ne (tgt := 27) hx hb dX12_next_11 (by decide) (fun c_222 => absurd (by decide) c_222) (fun c_222 => ?_)
  refine lv_aload_n hx hb dX12_next_14 rfl (lv_at hl 0 rfl) ?_
  refine lv_aload_n hx hb dX12_next_15 rfl (lv_at hl 0 rfl) ?_
  refine va_get (D := E.1) (ci := 12) (v := .int (nI 0)) (C := RX12) (T := TX12) (N := 116) hx hb hts iX12 hown hK hP 0 rfl rfl 2 (by decide) (hts _ wdF_RX12_264) (fun _ h9 => h9) ((mfs_get _ 2 (by decide)).trans (congrArg some (show (updG (updG (updG (updG (updG (updG (updG g 7 (.int 0)) 1 (.int (nI 0))) 2 (.int (nI 0))) 8 (.int (nI 0))) 35 (.int (nI 0))) 36 (.int (nI 0))) 34 (.int (nI 0))) 2 = .int (nI 0) from rfl))) dX12_next_16 ?_
  refine cI_go (wr := []) (cM_runV (As := [.int (nI 0)]) (rest := []) F (z14_X12_byteAt l E h0 r g gx gy gw gt fx fy fw bx by_ bw hR hI hm1 hm2 hm3 hm4) yy_X12_byteAt yi_X12_byteAt wdM_RX12_267 hP hD hS hK hZ hA [0, 1, 2] rfl rfl 0 12 rfl rfl rfl hl.1 rfl (Nat.le_of_ble_eq_true rfl) dX12_next_19 ⟨by decide, by decide⟩ ⟨by decide, by decide⟩) hP hD hS hA [0, 1, 2] [] rfl rfl rfl (by decide) (fun r_226 u_225 H locs hw_224 hP hD hS => ?_)
  try dsimp only at hw_224
  have hP : va_P E.1 vwCl [(h0, ob 12 (mfs (updG (updG (updG (updG (updG (updG (updG g 7 (.int 0)) 1 (.int (nI 0))) 2 (.int (nI 0))) 8 (.int (nI 0))) 35 (.int (nI 0))) 36 (.int (nI 0))) 34 (.int (nI 0))))), ((r 0), aB E 4096 (fun _ => 0)), ((r 31), aI E 10100 (fun _ => 0))] H := hP
  have hD : va_D A [(h0, ob 12 (mfs (updG (updG (updG (updG (updG (updG (updG g 7 (.int 0)) 1 (.int (nI 0))) 2 (.int (nI 0))) 8 (.int (nI 0))) 35 (.int (nI 0))) 36 (.int (nI 0))) 34 (.int (nI 0))))), ((r 0), aB E 4096 (fun _ => 0)), ((r 31), aI E 10100 (fun _ => 0))] := hD
  subst hw_224
  refine lv_bipush (v := nI 35) hx hb dX12_next_22 (by decide) ?_
  refine lv_icmp_ne (tgt := 91) hx hb dX12_next_24 (by decide) (fun c_227 => ?_) (fun c_227 => absurd c_227 (by decide))
  refine lv_aload_n hx hb dX12_next_91 rfl (lv_at hl 0 rfl) ?_
  refine lv_aload_n hx hb dX12_next_92 rfl (lv_at hl 0 rfl) ?_
  refine va_get (D := E.1) (ci := 12) (v := .int (nI 0)) (C := RX12) (T := TX12) (N := 116) hx hb hts iX12 hown hK hP 0 rfl rfl 2 (by decide) (hts _ wdF_RX12_264) (fun _ h9 => h9) ((mfs_get _ 2 (by decide)).trans (congrArg some (show (updG (updG (updG (updG (updG (updG (updG g 7 (.int 0)) 1 (.int (nI 0))) 2 (.int (nI 0))) 8 (.int (nI 0))) 35 (.int (nI 0))) 36 (.int (nI 0))) 34 (.int (nI 0))) 2 = .int (nI 0) from rfl))) dX12_next_93 ?_
  refine va_put (D := E.1) (ci := 12) (v := .int (nI 0)) (ty := .int) (C := RX12) (T := TX12) (N := 116) hx hb hts iX12 tyX12 tyX12_ok nmX12 hown hK hP hD hS 0 rfl rfl 4 (by decide) (hts _ wdF_RX12_275) (fun _ h9 => h9) rfl (by decide +kernel) rfl rfl (by rw [mfs_len]; decide) dX12_next_96 (fun H locs hP hD hS => ?_)
  have hP : va_P E.1 vwCl [(h0, ob 12 ((mfs (updG (updG (updG (updG (updG (updG (updG g 7 (.int 0)) 1 (.int (nI 0))) 2 (.int (nI 0))) 8 (.int (nI 0))) 35 (.int (nI 0))) 36 (.int (nI 0))) 34 (.int (nI 0)))).set 4 (.int (nI 0)))), ((r 0), aB E 4096 (fun _ => 0)), ((r 31), aI E 10100 (fun _ => 0))] H := hP
  have hD : va_D A [(h0, ob 12 ((mfs (updG (updG (updG (updG (updG (updG (updG g 7 (.int 0)) 1 (.int (nI 0))) 2 (.int (nI 0))) 8 (.int (nI 0))) 35 (.int (nI 0))) 36 (.int (nI 0))) 34 (.int (nI 0)))).set 4 (.int (nI 0)))), ((r 0), aB E 4096 (fun _ => 0)), ((r 31), aI E 10100 (fun _ => 0))] := hD
  rw [mfs_set _ 4 _ (by decide)] at hP hD
  refine lv_aload_n hx hb dX12_next_99 rfl (lv_at hl 0 rfl) ?_
  refine lv_aload_n hx hb dX12_next_100 rfl (lv_at hl 0 rfl) ?_
  refine va_get (D := E.1) (ci := 12) (v := .int (nI 0)) (C := RX12) (T := TX12) (N := 116) hx hb hts iX12 hown hK hP 0 rfl rfl 2 (by decide) (hts _ wdF_RX12_264) (fun _ h9 => h9) ((mfs_get _ 2 (by decide)).trans (congrArg some (show (updG (updG (updG (updG (updG (updG (updG (updG g 7 (.int 0)) 1 (.int (nI 0))) 2 (.int (nI 0))) 8 (.int (nI 0))) 35 (.int (nI 0))) 36 (.int (nI 0))) 34 (.int (nI 0))) 4 (.int (nI 0))) 2 = .int (nI 0) from rfl))) dX12_next_101 ?_
  refine cI_go (wr := []) (cM_runV (As := [.int (nI 0)]) (rest := []) F (z15_X12_byteAt l E h0 r g gx gy gw gt fx fy fw bx by_ bw hR hI hm1 hm2 hm3 hm4) yy_X12_byteAt yi_X12_byteAt wdM_RX12_267 hP hD hS hK hZ hA [0, 1, 2] rfl rfl 0 12 rfl rfl rfl hl.1 rfl (Nat.le_of_ble_eq_true rfl) dX12_next_104 ⟨by decide, by decide⟩ ⟨by decide, by decide⟩) hP hD hS hA [0, 1, 2] [] rfl rfl rfl (by decide) (fun r_231 u_230 H locs hw_229 hP hD hS => ?_)
  try dsimp only at hw_229
  have hP : va_P E.1 vwCl [(h0, ob 12 (mfs (updG (updG (updG (updG (updG (updG (updG (updG g 7 (.int 0)) 1 (.int (nI 0))) 2 (.int (nI 0))) 8 (.int (nI 0))) 35 (.int (nI 0))) 36 (.int (nI 0))) 34 (.int (nI 0))) 4 (.int (nI 0))))), ((r 0), aB E 4096 (fun _ => 0)), ((r 31), aI E 10100 (fun _ => 0))] H := hP
  have hD : va_D A [(h0, ob 12 (mfs (updG (updG (updG (updG (updG (updG (updG (updG g 7 (.int 0)) 1 (.int (nI 0))) 2 (.int (nI 0))) 8 (.int (nI 0))) 35 (.int (nI 0))) 36 (.int (nI 0))) 34 (.int (nI 0))) 4 (.int (nI 0))))), ((r 0), aB E 4096 (fun _ => 0)), ((r 31), aI E 10100 (fun _ => 0))] := hD
  subst hw_229
  refine lv_istore_n (lv' := [(1, .int (-1)), (0, .ref h0)]) hx hb dX12_next_107 rfl hl (by decide) rfl (fun ls hl => ?_)
  refine lv_iload_n hx hb dX12_next_108 rfl (lv_at hl 0 rfl) ?_
  refine lv_iconst (v := (-1)) hx hb dX12_next_109 (by decide) ?_
  refine lv_icmp_ne (tgt := 121) hx hb dX12_next_110 (by decide) (fun c_232 => absurd (by decide) c_232) (fun c_232 => ?_)
  refine lv_aload_n hx hb dX12_next_113 rfl (lv_at hl 1 rfl) ?_
  refine lv_iconst (v := nI 0) hx hb dX12_next_114 (by decide) ?_
  refine va_put (D := E.1) (ci := 12) (v := .int (nI 0)) (ty := .int) (C := RX12) (T := TX12) (N := 116) hx hb hts iX12 tyX12 tyX12_ok nmX12 hown hK hP hD hS 0 rfl rfl 3 (by decide) (hts _ wdF_RX12_278) (fun _ h9 => h9) rfl (by decide +kernel) rfl rfl (by rw [mfs_len]; decide) dX12_next_115 (fun H locs hP hD hS => ?_)
  have hP : va_P E.1 vwCl [(h0, ob 12 ((mfs (updG (updG (updG (updG (updG (updG (updG (updG g 7 (.int 0)) 1 (.int (nI 0))) 2 (.int (nI 0))) 8 (.int (nI 0))) 35 (.int (nI 0))) 36 (.int (nI 0))) 34 (.int (nI 0))) 4 (.int (nI 0)))).set 3 (.int (nI 0)))), ((r 0), aB E 4096 (fun _ => 0)), ((r 31), aI E 10100 (fun _ => 0))] H := hP
  have hD : va_D A [(h0, ob 12 ((mfs (updG (updG (updG (updG (updG (updG (updG (updG g 7 (.int 0)) 1 (.int (nI 0))) 2 (.int (nI 0))) 8 (.int (nI 0))) 35 (.int (nI 0))) 36 (.int (nI 0))) 34 (.int (nI 0))) 4 (.int (nI 0)))).set 3 (.int (nI 0)))), ((r 0), aB E 4096 (fun _ => 0)), ((r 31), aI E 10100 (fun _ => 0))] := hD
  rw [mfs_set _ 3 _ (by decide)] at hP hD
  refine lv_goto (tgt := 480) hx hb dX12_next_118 (by decide) ?_
  exact cV_ret F hP hD hS hK () trivial [0, 1, 2] rfl rfl dX12_next_480 (by decide) (by decide)
abbrev rm_z10_X12_opensText : Room := { frames := 2, cells := 0, slots := 0, locals := 43 }
set_option maxHeartbeats 4000000 in
set_option maxRecDepth 100000 in
theorem z10_X12_opensText (l : Launch) (E : cE) (h0 : Nat) (r : Nat → Nat) (g : Nat → Value) (gx : Nat → Int32) (gy : Nat → Int32) (gw : Nat → Int32) (gt : Nat → Int32) (fx : Nat → Int32) (fy : Nat → Int32) (fw : Nat → Int32) (bx : Nat → Int32) (by_ : Nat → Int32) (bw : Nat → Int32) (hR : mOK r g) (hI : ∀ k, k < 116 → mRef k = false → g k = mI k) (hm1 : flo (stC 0) (2 * 4) gx gy gw) (hm2 : ∀ d, d < 2 * 4 → gt d = 0) (hm3 : ∀ d, d < 2 * 4 → fx d = gx d ∧ fy d = gy d ∧ fw d = gw d) (hm4 : ∀ d, d < 2 * 4 → bx d = gx d ∧ by_ d = gy d ∧ bw d = gw d) : cM l E yX12_opensText cX12_opensText 1 none rm_z10_X12_opensText [.ref h0] [(h0, ob 12 (mfs g)), ((r 0), aB E 4096 (fun _ => 0)), ((r 31), aI E 10100 (fun _ => 0))] (qV E (fun (_u : Unit) => True) (fun _ => [(h0, ob 12 (mfs (updG (updG (updG (updG (updG (updG (updG (updG (updG g 7 (.int 0)) 1 (.int (nI 0))) 2 (.int (nI 0))) 8 (.int (nI 0))) 35 (.int (nI 0))) 36 (.int (nI 0))) 34 (.int (nI 0))) 4 (.int (nI 0))) 3 (.int (nI 0))))), ((r 0), aB E 4096 (fun _ => 0)), ((r 31), aI E 10100 (fun _ => 0))])) := by
  refine cM_of (by decide) (Nat.le_of_ble_eq_true rfl) ?_
  intro p e s m below meth c ls A F hA hS hP hD hK hZ hl
  obtain ⟨hx, hb, hr, hml, hown, hts, hlk, hin⟩ := id F
  have hown : s.vm.findClass RX12 = some m.cls := hown
  have hl : lv_has ls 1 [(0, .ref h0)] := hl
  refine lv_aload_n hx hb dX12_opensText_0 rfl (lv_at hl 0 rfl) ?_
  refine lv_aload_n hx hb dX12_opensText_1 rfl (lv_at hl 0 rfl) ?_
  refine va_get (D := E.1) (ci := 12) (v := .int 0) (C := RX12) (T := TX12) (N := 116) hx hb hts iX12 hown hK hP 0 rfl rfl 1 (by decide) (hts _ wdF_RX12_258) (fun _ h9 => h9) ((mfs_get _ 1 (by decide)).trans (congrArg some (show (g) 1 = .int 0 from (hI 1 (by decide) rfl)))) dX12_opensText_2 ?_
  refine va_put (D := E.1) (ci := 12) (v := .int 0) (ty := .int) (C := RX12) (T := TX12) (N := 116) hx hb hts iX12 tyX12 tyX12_ok nmX12 hown hK hP hD hS 0 rfl rfl 7 (by decide) (hts _ wdF_RX12_261) (fun _ h9 => h9) rfl (by decide +kernel) rfl rfl (by rw [mfs_len]; decide) dX12_opensText_5 (fun H locs hP hD hS => ?_)
  have hP : va_P E.1 vwCl [(h0, ob 12 ((mfs g).set 7 (.int 0))), ((r 0), aB E 4096 (fun _ => 0)), ((r 31), aI E 10100 (fun _ => 0))] H := hP
  have hD : va_D A [(h0, ob 12 ((mfs g).set 7 (.int 0))), ((r 0), aB E 4096 (fun _ => 0)), ((r 31), aI E 10100 (fun _ => 0))] := hD
  rw [mfs_set _ 7 _ (by decide)] at hP hD
  refine lv_aload_n hx hb dX12_opensText_8 rfl (lv_at hl 0 rfl) ?_
  refine lv_iconst (v := nI 0) hx hb dX12_opensText_9 (by decide) ?_
  refine va_put (D := E.1) (ci := 12) (v := .int (nI 0)) (ty := .int) (C := RX12) (T := TX12) (N := 116) hx hb hts iX12 tyX12 tyX12_ok nmX12 hown hK hP hD hS 0 rfl rfl 1 (by decide) (hts _ wdF_RX12_258) (fun _ h9 => h9) rfl (by decide +kernel) rfl rfl (by rw [mfs_len]; decide) dX12_opensText_10 (fun H locs hP hD hS => ?_)
  have hP : va_P E.1 vwCl [(h0, ob 12 ((mfs (updG g 7 (.int 0))).set 1 (.int (nI 0)))), ((r 0), aB E 4096 (fun _ => 0)), ((r 31), aI E 10100 (fun _ => 0))] H := hP
  have hD : va_D A [(h0, ob 12 ((mfs (updG g 7 (.int 0))).set 1 (.int (nI 0)))), ((r 0), aB E 4096 (fun _ => 0)), ((r 31), aI E 10100 (fun _ => 0))] := hD
  rw [mfs_set _ 1 _ (by decide)] at hP hD
  refine lv_aload_n hx hb dX12_opensText_13 rfl (lv_at hl 0 rfl) ?_
  refine lv_iconst (v := nI 0) hx hb dX12_opensText_14 (by decide) ?_
  refine va_put (D := E.1) (ci := 12) (v := .int (nI 0)) (ty := .int) (C := RX12) (T := TX12) (N := 116) hx hb hts iX12 tyX12 tyX12_ok nmX12 hown hK hP hD hS 0 rfl rfl 2 (by decide) (hts _ wdF_RX12_264) (fun _ h9 => h9) rfl (by decide +kernel) rfl rfl (by rw [mfs_len]; decide) dX12_opensText_15 (fun H locs hP hD hS => ?_)
  have hP : va_P E.1 vwCl [(h0, ob 12 ((mfs (updG (updG g 7 (.int 0)) 1 (.int (nI 0)))).set 2 (.int (nI 0)))), ((r 0), aB E 4096 (fun _ => 0)), ((r 31), aI E 10100 (fun _ => 0))] H := hP
  have hD : va_D A [(h0, ob 12 ((mfs (updG (updG g 7 (.int 0)) 1 (.int (nI 0)))).set 2 (.int (nI 0)))), ((r 0), aB E 4096 (fun _ => 0)), ((r 31), aI E 10100 (fun _ => 0))] := hD
  rw [mfs_set _ 2 _ (by decide)] at hP hD
  refine lv_aload_n hx hb dX12_opensText_18 rfl (lv_at hl 0 rfl) ?_
  refine lv_iconst (v := nI 0) hx hb dX12_opensText_19 (by decide) ?_
  refine va_put (D := E.1) (ci := 12) (v := .int (nI 0)) (ty := .int) (C := RX12) (T := TX12) (N := 116) hx hb hts iX12 tyX12 tyX12_ok nmX12 hown hK hP hD hS 0 rfl rfl 8 (by decide) (hts _ wdF_RX12_308) (fun _ h9 => h9) rfl (by decide +kernel) rfl rfl (by rw [mfs_len]; decide) dX12_opensText_20 (fun H locs hP hD hS => ?_)
  have hP : va_P E.1 vwCl [(h0, ob 12 ((mfs (updG (updG (updG g 7 (.int 0)) 1 (.int (nI 0))) 2 (.int (nI 0)))).set 8 (.int (nI 0)))), ((r 0), aB E 4096 (fun _ => 0)), ((r 31), aI E 10100 (fun _ => 0))] H := hP
  have hD : va_D A [(h0, ob 12 ((mfs (updG (updG (updG g 7 (.int 0)) 1 (.int (nI 0))) 2 (.int (nI 0)))).set 8 (.int (nI 0)))), ((r 0), aB E 4096 (fun _ => 0)), ((r 31), aI E 10100 (fun _ => 0))] := hD
  rw [mfs_set _ 8 _ (by decide)] at hP hD
  refine lv_aload_n hx hb dX12_opensText_23 rfl (lv_at hl 0 rfl) ?_
  refine lv_iconst (v := nI 0) hx hb dX12_opensText_24 (by decide) ?_
  refine va_put (D := E.1) (ci := 12) (v := .int (nI 0)) (ty := .int) (C := RX12) (T := TX12) (N := 116) hx hb hts iX12 tyX12 tyX12_ok nmX12 hown hK hP hD hS 0 rfl rfl 35 (by decide) (hts _ wdF_RX12_338) (fun _ h9 => h9) rfl (by decide +kernel) rfl rfl (by rw [mfs_len]; decide) dX12_opensText_25 (fun H locs hP hD hS => ?_)
  have hP : va_P E.1 vwCl [(h0, ob 12 ((mfs (updG (updG (updG (updG g 7 (.int 0)) 1 (.int (nI 0))) 2 (.int (nI 0))) 8 (.int (nI 0)))).set 35 (.int (nI 0)))), ((r 0), aB E 4096 (fun _ => 0)), ((r 31), aI E 10100 (fun _ => 0))] H := hP
  have hD : va_D A [(h0, ob 12 ((mfs (updG (updG (updG (updG g 7 (.int 0)) 1 (.int (nI 0))) 2 (.int (nI 0))) 8 (.int (nI 0)))).set 35 (.int (nI 0)))), ((r 0), aB E 4096 (fun _ => 0)), ((r 31), aI E 10100 (fun _ => 0))] := hD
  rw [mfs_set _ 35 _ (by decide)] at hP hD
  refine lv_aload_n hx hb dX12_opensText_28 rfl (lv_at hl 0 rfl) ?_
  refine lv_iconst (v := nI 0) hx hb dX12_opensText_29 (by decide) ?_
  refine va_put (D := E.1) (ci := 12) (v := .int (nI 0)) (ty := .int) (C := RX12) (T := TX12) (N := 116) hx hb hts iX12 tyX12 tyX12_ok nmX12 hown hK hP hD hS 0 rfl rfl 36 (by decide) (hts _ wdF_RX12_311) (fun _ h9 => h9) rfl (by decide +kernel) rfl rfl (by rw [mfs_len]; decide) dX12_opensText_30 (fun H locs hP hD hS => ?_)
  have hP : va_P E.1 vwCl [(h0, ob 12 ((mfs (updG (updG (updG (updG (updG g 7 (.int 0)) 1 (.int (nI 0))) 2 (.int (nI 0))) 8 (.int (nI 0))) 35 (.int (nI 0)))).set 36 (.int (nI 0)))), ((r 0), aB E 4096 (fun _ => 0)), ((r 31), aI E 10100 (fun _ => 0))] H := hP
  have hD : va_D A [(h0, ob 12 ((mfs (updG (updG (updG (updG (updG g 7 (.int 0)) 1 (.int (nI 0))) 2 (.int (nI 0))) 8 (.int (nI 0))) 35 (.int (nI 0)))).set 36 (.int (nI 0)))), ((r 0), aB E 4096 (fun _ => 0)), ((r 31), aI E 10100 (fun _ => 0))] := hD
  rw [mfs_set _ 36 _ (by decide)] at hP hD
  refine lv_aload_n hx hb dX12_opensText_33 rfl (lv_at hl 0 rfl) ?_
  refine lv_iconst (v := nI 0) hx hb dX12_opensText_34 (by decide) ?_
  refine va_put (D := E.1) (ci := 12) (v := .int (nI 0)) (ty := .int) (C := RX12) (T := TX12) (N := 116) hx hb hts iX12 tyX12 tyX12_ok nmX12 hown hK hP hD hS 0 rfl rfl 34 (by decide) (hts _ wdF_RX12_320) (fun _ h9 => h9) rfl (by decide +kernel) rfl rfl (by rw [mfs_len]; decide) dX12_opensText_35 (fun H locs hP hD hS => ?_)
  have hP : va_P E.1 vwCl [(h0, ob 12 ((mfs (updG (updG (updG (updG (updG (updG g 7 (.int 0)) 1 (.int (nI 0))) 2 (.int (nI 0))) 8 (.int (nI 0))) 35 (.int (nI 0))) 36 (.int (nI 0)))).set 34 (.int (nI 0)))), ((r 0), aB E 4096 (fun _ => 0)), ((r 31), aI E 10100 (fun _ => 0))] H := hP
  have hD : va_D A [(h0, ob 12 ((mfs (updG (updG (updG (updG (updG (updG g 7 (.int 0)) 1 (.int (nI 0))) 2 (.int (nI 0))) 8 (.int (nI 0))) 35 (.int (nI 0))) 36 (.int (nI 0)))).set 34 (.int (nI 0)))), ((r 0), aB E 4096 (fun _ => 0)), ((r 31), aI E 10100 (fun _ => 0))] := hD
  rw [mfs_set _ 34 _ (by decide)] at hP hD
  refine lv_aload_n hx hb dX12_opensText_38 rfl (lv_at hl 0 rfl) ?_
  refine cV_go (wr := []) (cM_runV (As := []) (rest := []) F (z11_X12_next l E h0 r g gx gy gw gt fx fy fw bx by_ bw hR hI hm1 hm2 hm3 hm4) yy_X12_next yi_X12_next wdM_RX12_323 hP hD hS hK hZ hA [0, 1, 2] rfl rfl 0 12 rfl rfl rfl hl.1 rfl (Nat.le_of_ble_eq_true rfl) dX12_opensText_39 ⟨by decide, by decide⟩ ⟨by decide, by decide⟩) hP hD hS hA [0, 1, 2] [] rfl rfl rfl (by decide) (fun u_234 H locs hw_233 hP hD hS => ?_)
  try dsimp only at hw_233
  have hP : va_P E.1 vwCl [(h0, ob 12 (mfs (updG (updG (updG (updG (updG (updG (updG (updG (updG g 7 (.int 0)) 1 (.int (nI 0))) 2 (.int (nI 0))) 8 (.int (nI 0))) 35 (.int (nI 0))) 36 (.int (nI 0))) 34 (.int (nI 0))) 4 (.int (nI 0))) 3 (.int (nI 0))))), ((r 0), aB E 4096 (fun _ => 0)), ((r 31), aI E 10100 (fun _ => 0))] H := hP
  have hD : va_D A [(h0, ob 12 (mfs (updG (updG (updG (updG (updG (updG (updG (updG (updG g 7 (.int 0)) 1 (.int (nI 0))) 2 (.int (nI 0))) 8 (.int (nI 0))) 35 (.int (nI 0))) 36 (.int (nI 0))) 34 (.int (nI 0))) 4 (.int (nI 0))) 3 (.int (nI 0))))), ((r 0), aB E 4096 (fun _ => 0)), ((r 31), aI E 10100 (fun _ => 0))] := hD
  exact cV_ret F hP hD hS hK () trivial [0, 1, 2] rfl rfl dX12_opensText_42 (by decide) (by decide)
theorem dX12_isSign_0 : decode cX12_isSign 0 = .ok (.aload_n 0, 1) := by decide +kernel
theorem dX12_isSign_1 : decode cX12_isSign 1 = .ok (.getfield 278, 3) := by decide +kernel
theorem dX12_isSign_4 : decode cX12_isSign 4 = .ok (.iconst 4, 1) := by decide +kernel
theorem dX12_isSign_5 : decode cX12_isSign 5 = .ok (.if_icmp .ne 15, 3) := by decide +kernel
theorem dX12_isSign_8 : decode cX12_isSign 8 = .ok (.aload_n 0, 1) := by decide +kernel
theorem dX12_isSign_9 : decode cX12_isSign 9 = .ok (.getfield 294, 3) := by decide +kernel
theorem dX12_isSign_12 : decode cX12_isSign 12 = .ok (.iload_n 1, 1) := by decide +kernel
theorem dX12_isSign_13 : decode cX12_isSign 13 = .ok (.if_icmp .ne 7, 3) := by decide +kernel
theorem dX12_isSign_16 : decode cX12_isSign 16 = .ok (.iconst 1, 1) := by decide +kernel
theorem dX12_isSign_17 : decode cX12_isSign 17 = .ok (.goto 4, 3) := by decide +kernel
theorem dX12_isSign_20 : decode cX12_isSign 20 = .ok (.iconst 0, 1) := by decide +kernel
theorem dX12_isSign_21 : decode cX12_isSign 21 = .ok (.ireturn, 1) := by decide +kernel
abbrev rm_z20_X12_isSign : Room := { frames := 0, cells := 0, slots := 0, locals := 0 }
set_option maxHeartbeats 4000000 in
set_option maxRecDepth 100000 in
theorem z20_X12_isSign (l : Launch) (E : cE) (h0 : Nat) (r : Nat → Nat) (g : Nat → Value) (gx : Nat → Int32) (gy : Nat → Int32) (gw : Nat → Int32) (gt : Nat → Int32) (fx : Nat → Int32) (fy : Nat → Int32) (fw : Nat → Int32) (bx : Nat → Int32) (by_ : Nat → Int32) (bw : Nat → Int32) (hR : mOK r g) (hI : ∀ k, k < 116 → mRef k = false → g k = mI k) (hm1 : flo (stC 0) (2 * 4) gx gy gw) (hm2 : ∀ d, d < 2 * 4 → gt d = 0) (hm3 : ∀ d, d < 2 * 4 → fx d = gx d ∧ fy d = gy d ∧ fw d = gw d) (hm4 : ∀ d, d < 2 * 4 → bx d = gx d ∧ by_ d = gy d ∧ bw d = gw d) : cM l E yX12_isSign cX12_isSign 2 (some .boolean) rm_z20_X12_isSign [.ref h0, .int (nI 40)] [(h0, ob 12 (mfs (updG (updG (updG (updG (updG (updG (updG (updG (updG (updG g 7 (.int 0)) 1 (.int (nI 0))) 2 (.int (nI 0))) 8 (.int (nI 0))) 35 (.int (nI 0))) 36 (.int (nI 0))) 34 (.int (nI 0))) 4 (.int (nI 0))) 3 (.int (nI 0))) 36 (.int (nI 2))))), ((r 0), aB E 4096 (fun _ => 0)), ((r 31), aI E 10100 (fun _ => 0))] (qI E (fun (r : Int32) (_u : Unit) => r = nI 0) (fun _ => [(h0, ob 12 (mfs (updG (updG (updG (updG (updG (updG (updG (updG (updG (updG g 7 (.int 0)) 1 (.int (nI 0))) 2 (.int (nI 0))) 8 (.int (nI 0))) 35 (.int (nI 0))) 36 (.int (nI 0))) 34 (.int (nI 0))) 4 (.int (nI 0))) 3 (.int (nI 0))) 36 (.int (nI 2))))), ((r 0), aB E 4096 (fun _ => 0)), ((r 31), aI E 10100 (fun _ => 0))])) := by
  refine cM_of (by decide) (Nat.le_of_ble_eq_true rfl) ?_
  intro p e s m below meth c ls A F hA hS hP hD hK hZ hl
  obtain ⟨hx, hb, hr, hml, hown, hts, hlk, hin⟩ := id F
  have hown : s.vm.findClass RX12 = some m.cls := hown
  have hl : lv_has ls 2 [(0, .ref h0), (1, .int (nI 40))] := hl
  refine lv_aload_n hx hb dX12_isSign_0 rfl (lv_at hl 0 rfl) ?_
  refine va_get (D := E.1) (ci := 12) (v := .int (nI 0)) (C := RX12) (T := TX12) (N := 116) hx hb hts iX12 hown hK hP 0 rfl rfl 3 (by decide) (hts _ wdF_RX12_278) (fun _ h9 => h9) ((mfs_get _ 3 (by decide)).trans (congrArg some (show (updG (updG (updG (updG (updG (updG (updG (updG (updG (updG g 7 (.int 0)) 1 (.int (nI 0))) 2 (.int (nI 0))) 8 (.int (nI 0))) 35 (.int (nI 0))) 36 (.int (nI 0))) 34 (.int (nI 0))) 4 (.int (nI 0))) 3 (.int (nI 0))) 36 (.int (nI 2))) 3 = .int (nI 0) from rfl))) dX12_isSign_1 ?_
  refine lv_iconst (v := nI 4) hx hb dX12_isSign_4 (by decide) ?_
  refine lv_icmp_ne (tgt := 20) hx hb dX12_isSign_5 (by decide) (fun c_240 => ?_) (fun c_240 => absurd c_240 (by decide))
  refine lv_iconst (v := nI 0) hx hb dX12_isSign_20 (by decide) ?_
  exact cB_ret F hP hD hS hK (by decide) () rfl [0, 1, 2] rfl rfl dX12_isSign_21 (by decide) (by decide)
theorem yy_X12_isSign : cY yX12_isSign cX12_isSign 2 (some .boolean) 1 := ⟨wdK_X12_isSign, wdZ_RX12, by decide +kernel⟩
theorem yi_X12_isSign : cYi yX12_isSign := ⟨wdN_X12_isSign, wdS_X12_isSign⟩
theorem dX12_wrong_0 : decode cX12_wrong 0 = .ok (.aload_n 0, 1) := by decide +kernel
theorem dX12_wrong_1 : decode cX12_wrong 1 = .ok (.iload_n 1, 1) := by decide +kernel
theorem dX12_wrong_2 : decode cX12_wrong 2 = .ok (.putfield 308, 3) := by decide +kernel
theorem dX12_wrong_5 : decode cX12_wrong 5 = .ok (.iconst 0, 1) := by decide +kernel
theorem dX12_wrong_6 : decode cX12_wrong 6 = .ok (.ireturn, 1) := by decide +kernel
abbrev rm_z21_X12_wrong : Room := { frames := 0, cells := 0, slots := 0, locals := 0 }
set_option maxHeartbeats 4000000 in
set_option maxRecDepth 100000 in
theorem z21_X12_wrong (l : Launch) (E : cE) (h0 : Nat) (r : Nat → Nat) (g : Nat → Value) (gx : Nat → Int32) (gy : Nat → Int32) (gw : Nat → Int32) (gt : Nat → Int32) (fx : Nat → Int32) (fy : Nat → Int32) (fw : Nat → Int32) (bx : Nat → Int32) (by_ : Nat → Int32) (bw : Nat → Int32) (hR : mOK r g) (hI : ∀ k, k < 116 → mRef k = false → g k = mI k) (hm1 : flo (stC 0) (2 * 4) gx gy gw) (hm2 : ∀ d, d < 2 * 4 → gt d = 0) (hm3 : ∀ d, d < 2 * 4 → fx d = gx d ∧ fy d = gy d ∧ fw d = gw d) (hm4 : ∀ d, d < 2 * 4 → bx d = gx d ∧ by_ d = gy d ∧ bw d = gw d) : cM l E yX12_wrong cX12_wrong 2 (some .boolean) rm_z21_X12_wrong [.ref h0, .int (nI 1)] [(h0, ob 12 (mfs (updG (updG (updG (updG (updG (updG (updG (updG (updG (updG g 7 (.int 0)) 1 (.int (nI 0))) 2 (.int (nI 0))) 8 (.int (nI 0))) 35 (.int (nI 0))) 36 (.int (nI 0))) 34 (.int (nI 0))) 4 (.int (nI 0))) 3 (.int (nI 0))) 36 (.int (nI 2))))), ((r 0), aB E 4096 (fun _ => 0)), ((r 31), aI E 10100 (fun _ => 0))] (qI E (fun (r : Int32) (_u : Unit) => r = nI 0) (fun _ => [(h0, ob 12 (mfs (updG (updG (updG (updG (updG (updG (updG (updG (updG (updG (updG g 7 (.int 0)) 1 (.int (nI 0))) 2 (.int (nI 0))) 8 (.int (nI 0))) 35 (.int (nI 0))) 36 (.int (nI 0))) 34 (.int (nI 0))) 4 (.int (nI 0))) 3 (.int (nI 0))) 36 (.int (nI 2))) 8 (.int (nI 1))))), ((r 0), aB E 4096 (fun _ => 0)), ((r 31), aI E 10100 (fun _ => 0))])) := by
  refine cM_of (by decide) (Nat.le_of_ble_eq_true rfl) ?_
  intro p e s m below meth c ls A F hA hS hP hD hK hZ hl
  obtain ⟨hx, hb, hr, hml, hown, hts, hlk, hin⟩ := id F
  have hown : s.vm.findClass RX12 = some m.cls := hown
  have hl : lv_has ls 2 [(0, .ref h0), (1, .int (nI 1))] := hl
  refine lv_aload_n hx hb dX12_wrong_0 rfl (lv_at hl 0 rfl) ?_
  refine lv_iload_n hx hb dX12_wrong_1 rfl (lv_at hl 1 rfl) ?_
  refine va_put (D := E.1) (ci := 12) (v := .int (nI 1)) (ty := .int) (C := RX12) (T := TX12) (N := 116) hx hb hts iX12 tyX12 tyX12_ok nmX12 hown hK hP hD hS 0 rfl rfl 8 (by decide) (hts _ wdF_RX12_308) (fun _ h9 => h9) rfl (by decide +kernel) rfl rfl (by rw [mfs_len]; decide) dX12_wrong_2 (fun H locs hP hD hS => ?_)
  have hP : va_P E.1 vwCl [(h0, ob 12 ((mfs (updG (updG (updG (updG (updG (updG (updG (updG (updG (updG g 7 (.int 0)) 1 (.int (nI 0))) 2 (.int (nI 0))) 8 (.int (nI 0))) 35 (.int (nI 0))) 36 (.int (nI 0))) 34 (.int (nI 0))) 4 (.int (nI 0))) 3 (.int (nI 0))) 36 (.int (nI 2)))).set 8 (.int (nI 1)))), ((r 0), aB E 4096 (fun _ => 0)), ((r 31), aI E 10100 (fun _ => 0))] H := hP
  have hD : va_D A [(h0, ob 12 ((mfs (updG (updG (updG (updG (updG (updG (updG (updG (updG (updG g 7 (.int 0)) 1 (.int (nI 0))) 2 (.int (nI 0))) 8 (.int (nI 0))) 35 (.int (nI 0))) 36 (.int (nI 0))) 34 (.int (nI 0))) 4 (.int (nI 0))) 3 (.int (nI 0))) 36 (.int (nI 2)))).set 8 (.int (nI 1)))), ((r 0), aB E 4096 (fun _ => 0)), ((r 31), aI E 10100 (fun _ => 0))] := hD
  rw [mfs_set _ 8 _ (by decide)] at hP hD
  refine lv_iconst (v := nI 0) hx hb dX12_wrong_5 (by decide) ?_
  exact cB_ret F hP hD hS hK (by decide) () rfl [0, 1, 2] rfl rfl dX12_wrong_6 (by decide) (by decide)
theorem yy_X12_wrong : cY yX12_wrong cX12_wrong 2 (some .boolean) 1 := ⟨wdK_X12_wrong, wdZ_RX12, by decide +kernel⟩
theorem yi_X12_wrong : cYi yX12_wrong := ⟨wdN_X12_wrong, wdS_X12_wrong⟩
theorem dX12_whoOne_0 : decode cX12_whoOne 0 = .ok (.aload_n 0, 1) := by decide +kernel
theorem dX12_whoOne_1 : decode cX12_whoOne 1 = .ok (.bipush 40, 2) := by decide +kernel
theorem dX12_whoOne_3 : decode cX12_whoOne 3 = .ok (.invokevirtual 332, 3) := by decide +kernel
theorem dX12_whoOne_6 : decode cX12_whoOne 6 = .ok (.ifCond .eq 34, 3) := by decide +kernel
theorem dX12_whoOne_9 : decode cX12_whoOne 9 = .ok (.aload_n 0, 1) := by decide +kernel
theorem dX12_whoOne_10 : decode cX12_whoOne 10 = .ok (.bipush 40, 2) := by decide +kernel
theorem dX12_whoOne_12 : decode cX12_whoOne 12 = .ok (.invokevirtual 398, 3) := by decide +kernel
theorem dX12_whoOne_15 : decode cX12_whoOne 15 = .ok (.ifCond .eq 23, 3) := by decide +kernel
theorem dX12_whoOne_18 : decode cX12_whoOne 18 = .ok (.aload_n 0, 1) := by decide +kernel
theorem dX12_whoOne_19 : decode cX12_whoOne 19 = .ok (.invokevirtual 410, 3) := by decide +kernel
theorem dX12_whoOne_22 : decode cX12_whoOne 22 = .ok (.ifCond .eq 16, 3) := by decide +kernel
theorem dX12_whoOne_25 : decode cX12_whoOne 25 = .ok (.aload_n 0, 1) := by decide +kernel
theorem dX12_whoOne_26 : decode cX12_whoOne 26 = .ok (.bipush 41, 2) := by decide +kernel
theorem dX12_whoOne_28 : decode cX12_whoOne 28 = .ok (.invokevirtual 404, 3) := by decide +kernel
theorem dX12_whoOne_31 : decode cX12_whoOne 31 = .ok (.ifCond .eq 7, 3) := by decide +kernel
theorem dX12_whoOne_34 : decode cX12_whoOne 34 = .ok (.iconst 1, 1) := by decide +kernel
theorem dX12_whoOne_35 : decode cX12_whoOne 35 = .ok (.goto 4, 3) := by decide +kernel
theorem dX12_whoOne_38 : decode cX12_whoOne 38 = .ok (.iconst 0, 1) := by decide +kernel
theorem dX12_whoOne_39 : decode cX12_whoOne 39 = .ok (.ireturn, 1) := by decide +kernel
theorem dX12_whoOne_40 : decode cX12_whoOne 40 = .ok (.aload_n 0, 1) := by decide +kernel
theorem dX12_whoOne_41 : decode cX12_whoOne 41 = .ok (.getfield 278, 3) := by decide +kernel
theorem dX12_whoOne_44 : decode cX12_whoOne 44 = .ok (.iconst 1, 1) := by decide +kernel
theorem dX12_whoOne_45 : decode cX12_whoOne 45 = .ok (.if_icmp .eq 9, 3) := by decide +kernel
theorem dX12_whoOne_48 : decode cX12_whoOne 48 = .ok (.aload_n 0, 1) := by decide +kernel
theorem dX12_whoOne_49 : decode cX12_whoOne 49 = .ok (.iconst 1, 1) := by decide +kernel
theorem dX12_whoOne_50 : decode cX12_whoOne 50 = .ok (.invokevirtual 317, 3) := by decide +kernel
theorem dX12_whoOne_53 : decode cX12_whoOne 53 = .ok (.ireturn, 1) := by decide +kernel
theorem dX12_whoOne_54 : decode cX12_whoOne 54 = .ok (.aload_n 0, 1) := by decide +kernel
theorem dX12_whoOne_55 : decode cX12_whoOne 55 = .ok (.getfield 294, 3) := by decide +kernel
theorem dX12_whoOne_58 : decode cX12_whoOne 58 = .ok (.tableswitch 270 14 26 #[96, 96, 96, 96, 96, 105, 130, 155, 205, 228, 270, 270, 66], 66) := by decide +kernel
theorem dX12_whoOne_124 : decode cX12_whoOne 124 = .ok (.aload_n 0, 1) := by decide +kernel
theorem dX12_whoOne_125 : decode cX12_whoOne 125 = .ok (.bipush 26, 2) := by decide +kernel
theorem dX12_whoOne_127 : decode cX12_whoOne 127 = .ok (.invokevirtual 341, 3) := by decide +kernel
theorem dX12_whoOne_130 : decode cX12_whoOne 130 = .ok (.ifCond .eq 10, 3) := by decide +kernel
theorem dX12_whoOne_133 : decode cX12_whoOne 133 = .ok (.aload_n 0, 1) := by decide +kernel
theorem dX12_whoOne_134 : decode cX12_whoOne 134 = .ok (.invokevirtual 416, 3) := by decide +kernel
theorem dX12_whoOne_137 : decode cX12_whoOne 137 = .ok (.ifCond .ne 5, 3) := by decide +kernel
theorem dX12_whoOne_140 : decode cX12_whoOne 140 = .ok (.iconst 0, 1) := by decide +kernel
theorem dX12_whoOne_141 : decode cX12_whoOne 141 = .ok (.ireturn, 1) := by decide +kernel
theorem dX12_whoOne_142 : decode cX12_whoOne 142 = .ok (.aload_n 0, 1) := by decide +kernel
theorem dX12_whoOne_143 : decode cX12_whoOne 143 = .ok (.dup, 1) := by decide +kernel
theorem dX12_whoOne_144 : decode cX12_whoOne 144 = .ok (.getfield 338, 3) := by decide +kernel
theorem dX12_whoOne_147 : decode cX12_whoOne 147 = .ok (.iconst 1, 1) := by decide +kernel
theorem dX12_whoOne_148 : decode cX12_whoOne 148 = .ok (.isub, 1) := by decide +kernel
theorem dX12_whoOne_149 : decode cX12_whoOne 149 = .ok (.putfield 338, 3) := by decide +kernel
theorem dX12_whoOne_152 : decode cX12_whoOne 152 = .ok (.iconst 1, 1) := by decide +kernel
theorem dX12_whoOne_153 : decode cX12_whoOne 153 = .ok (.ireturn, 1) := by decide +kernel
theorem dX12_whoOne_154 : decode cX12_whoOne 154 = .ok (.aload_n 0, 1) := by decide +kernel
theorem dX12_whoOne_155 : decode cX12_whoOne 155 = .ok (.aload_n 0, 1) := by decide +kernel
theorem dX12_whoOne_156 : decode cX12_whoOne 156 = .ok (.getfield 294, 3) := by decide +kernel
theorem dX12_whoOne_159 : decode cX12_whoOne 159 = .ok (.invokevirtual 329, 3) := by decide +kernel
theorem dX12_whoOne_162 : decode cX12_whoOne 162 = .ok (.ireturn, 1) := by decide +kernel
theorem dX12_whoOne_163 : decode cX12_whoOne 163 = .ok (.aload_n 0, 1) := by decide +kernel
theorem dX12_whoOne_164 : decode cX12_whoOne 164 = .ok (.bipush 19, 2) := by decide +kernel
theorem dX12_whoOne_166 : decode cX12_whoOne 166 = .ok (.invokevirtual 329, 3) := by decide +kernel
theorem dX12_whoOne_169 : decode cX12_whoOne 169 = .ok (.ifCond .eq 17, 3) := by decide +kernel
theorem dX12_whoOne_172 : decode cX12_whoOne 172 = .ok (.aload_n 0, 1) := by decide +kernel
theorem dX12_whoOne_173 : decode cX12_whoOne 173 = .ok (.iconst 0, 1) := by decide +kernel
theorem dX12_whoOne_174 : decode cX12_whoOne 174 = .ok (.bipush 31, 2) := by decide +kernel
theorem dX12_whoOne_176 : decode cX12_whoOne 176 = .ok (.invokevirtual 384, 3) := by decide +kernel
theorem dX12_whoOne_179 : decode cX12_whoOne 179 = .ok (.ifCond .eq 7, 3) := by decide +kernel
theorem dX12_whoOne_182 : decode cX12_whoOne 182 = .ok (.iconst 1, 1) := by decide +kernel
theorem dX12_whoOne_183 : decode cX12_whoOne 183 = .ok (.goto 4, 3) := by decide +kernel
theorem dX12_whoOne_186 : decode cX12_whoOne 186 = .ok (.iconst 0, 1) := by decide +kernel
theorem dX12_whoOne_187 : decode cX12_whoOne 187 = .ok (.ireturn, 1) := by decide +kernel
theorem dX12_whoOne_188 : decode cX12_whoOne 188 = .ok (.aload_n 0, 1) := by decide +kernel
theorem dX12_whoOne_189 : decode cX12_whoOne 189 = .ok (.bipush 20, 2) := by decide +kernel
theorem dX12_whoOne_191 : decode cX12_whoOne 191 = .ok (.invokevirtual 329, 3) := by decide +kernel
theorem dX12_whoOne_194 : decode cX12_whoOne 194 = .ok (.ifCond .eq 17, 3) := by decide +kernel
theorem dX12_whoOne_197 : decode cX12_whoOne 197 = .ok (.aload_n 0, 1) := by decide +kernel
theorem dX12_whoOne_198 : decode cX12_whoOne 198 = .ok (.iconst 0, 1) := by decide +kernel
theorem dX12_whoOne_199 : decode cX12_whoOne 199 = .ok (.bipush 63, 2) := by decide +kernel
theorem dX12_whoOne_201 : decode cX12_whoOne 201 = .ok (.invokevirtual 384, 3) := by decide +kernel
theorem dX12_whoOne_204 : decode cX12_whoOne 204 = .ok (.ifCond .eq 7, 3) := by decide +kernel
theorem dX12_whoOne_207 : decode cX12_whoOne 207 = .ok (.iconst 1, 1) := by decide +kernel
theorem dX12_whoOne_208 : decode cX12_whoOne 208 = .ok (.goto 4, 3) := by decide +kernel
theorem dX12_whoOne_211 : decode cX12_whoOne 211 = .ok (.iconst 0, 1) := by decide +kernel
theorem dX12_whoOne_212 : decode cX12_whoOne 212 = .ok (.ireturn, 1) := by decide +kernel
theorem dX12_whoOne_213 : decode cX12_whoOne 213 = .ok (.aload_n 0, 1) := by decide +kernel
theorem dX12_whoOne_214 : decode cX12_whoOne 214 = .ok (.bipush 21, 2) := by decide +kernel
theorem dX12_whoOne_216 : decode cX12_whoOne 216 = .ok (.invokevirtual 329, 3) := by decide +kernel
theorem dX12_whoOne_219 : decode cX12_whoOne 219 = .ok (.ifCond .ne 5, 3) := by decide +kernel
theorem dX12_whoOne_222 : decode cX12_whoOne 222 = .ok (.iconst 0, 1) := by decide +kernel
theorem dX12_whoOne_223 : decode cX12_whoOne 223 = .ok (.ireturn, 1) := by decide +kernel
theorem dX12_whoOne_224 : decode cX12_whoOne 224 = .ok (.aload_n 0, 1) := by decide +kernel
theorem dX12_whoOne_225 : decode cX12_whoOne 225 = .ok (.getfield 278, 3) := by decide +kernel
theorem dX12_whoOne_228 : decode cX12_whoOne 228 = .ok (.iconst 1, 1) := by decide +kernel
theorem dX12_whoOne_229 : decode cX12_whoOne 229 = .ok (.if_icmp .ne 28, 3) := by decide +kernel
theorem dX12_whoOne_232 : decode cX12_whoOne 232 = .ok (.aload_n 0, 1) := by decide +kernel
theorem dX12_whoOne_233 : decode cX12_whoOne 233 = .ok (.getfield 294, 3) := by decide +kernel
theorem dX12_whoOne_236 : decode cX12_whoOne 236 = .ok (.bipush 31, 2) := by decide +kernel
theorem dX12_whoOne_238 : decode cX12_whoOne 238 = .ok (.bipush 34, 2) := by decide +kernel
theorem dX12_whoOne_240 : decode cX12_whoOne 240 = .ok (.invokestatic 227, 3) := by decide +kernel
theorem dX12_whoOne_243 : decode cX12_whoOne 243 = .ok (.ifCond .eq 14, 3) := by decide +kernel
theorem dX12_whoOne_246 : decode cX12_whoOne 246 = .ok (.aload_n 0, 1) := by decide +kernel
theorem dX12_whoOne_247 : decode cX12_whoOne 247 = .ok (.aload_n 0, 1) := by decide +kernel
theorem dX12_whoOne_248 : decode cX12_whoOne 248 = .ok (.getfield 294, 3) := by decide +kernel
theorem dX12_whoOne_251 : decode cX12_whoOne 251 = .ok (.invokevirtual 329, 3) := by decide +kernel
theorem dX12_whoOne_254 : decode cX12_whoOne 254 = .ok (.goto 8, 3) := by decide +kernel
theorem dX12_whoOne_257 : decode cX12_whoOne 257 = .ok (.aload_n 0, 1) := by decide +kernel
theorem dX12_whoOne_258 : decode cX12_whoOne 258 = .ok (.iconst 1, 1) := by decide +kernel
theorem dX12_whoOne_259 : decode cX12_whoOne 259 = .ok (.invokevirtual 317, 3) := by decide +kernel
theorem dX12_whoOne_262 : decode cX12_whoOne 262 = .ok (.ireturn, 1) := by decide +kernel
theorem dX12_whoOne_263 : decode cX12_whoOne 263 = .ok (.aload_n 0, 1) := by decide +kernel
theorem dX12_whoOne_264 : decode cX12_whoOne 264 = .ok (.bipush 22, 2) := by decide +kernel
theorem dX12_whoOne_266 : decode cX12_whoOne 266 = .ok (.invokevirtual 329, 3) := by decide +kernel
theorem dX12_whoOne_269 : decode cX12_whoOne 269 = .ok (.ifCond .eq 15, 3) := by decide +kernel
theorem dX12_whoOne_272 : decode cX12_whoOne 272 = .ok (.aload_n 0, 1) := by decide +kernel
theorem dX12_whoOne_273 : decode cX12_whoOne 273 = .ok (.iconst 0, 1) := by decide +kernel
theorem dX12_whoOne_274 : decode cX12_whoOne 274 = .ok (.invokevirtual 381, 3) := by decide +kernel
theorem dX12_whoOne_277 : decode cX12_whoOne 277 = .ok (.ifCond .eq 7, 3) := by decide +kernel
theorem dX12_whoOne_280 : decode cX12_whoOne 280 = .ok (.iconst 1, 1) := by decide +kernel
theorem dX12_whoOne_281 : decode cX12_whoOne 281 = .ok (.goto 4, 3) := by decide +kernel
theorem dX12_whoOne_284 : decode cX12_whoOne 284 = .ok (.iconst 0, 1) := by decide +kernel
theorem dX12_whoOne_285 : decode cX12_whoOne 285 = .ok (.ireturn, 1) := by decide +kernel
theorem dX12_whoOne_286 : decode cX12_whoOne 286 = .ok (.aload_n 0, 1) := by decide +kernel
theorem dX12_whoOne_287 : decode cX12_whoOne 287 = .ok (.bipush 23, 2) := by decide +kernel
theorem dX12_whoOne_289 : decode cX12_whoOne 289 = .ok (.invokevirtual 329, 3) := by decide +kernel
theorem dX12_whoOne_292 : decode cX12_whoOne 292 = .ok (.ifCond .eq 34, 3) := by decide +kernel
theorem dX12_whoOne_295 : decode cX12_whoOne 295 = .ok (.aload_n 0, 1) := by decide +kernel
theorem dX12_whoOne_296 : decode cX12_whoOne 296 = .ok (.iconst 0, 1) := by decide +kernel
theorem dX12_whoOne_297 : decode cX12_whoOne 297 = .ok (.invokevirtual 381, 3) := by decide +kernel
theorem dX12_whoOne_300 : decode cX12_whoOne 300 = .ok (.ifCond .eq 26, 3) := by decide +kernel
theorem dX12_whoOne_303 : decode cX12_whoOne 303 = .ok (.aload_n 0, 1) := by decide +kernel
theorem dX12_whoOne_304 : decode cX12_whoOne 304 = .ok (.iconst 0, 1) := by decide +kernel
theorem dX12_whoOne_305 : decode cX12_whoOne 305 = .ok (.aload_n 0, 1) := by decide +kernel
theorem dX12_whoOne_306 : decode cX12_whoOne 306 = .ok (.getfield 26, 3) := by decide +kernel
theorem dX12_whoOne_309 : decode cX12_whoOne 309 = .ok (.aload_n 0, 1) := by decide +kernel
theorem dX12_whoOne_310 : decode cX12_whoOne 310 = .ok (.getfield 359, 3) := by decide +kernel
theorem dX12_whoOne_313 : decode cX12_whoOne 313 = .ok (.iaload, 1) := by decide +kernel
theorem dX12_whoOne_314 : decode cX12_whoOne 314 = .ok (.iconst 1, 1) := by decide +kernel
theorem dX12_whoOne_315 : decode cX12_whoOne 315 = .ok (.isub, 1) := by decide +kernel
theorem dX12_whoOne_316 : decode cX12_whoOne 316 = .ok (.invokevirtual 384, 3) := by decide +kernel
theorem dX12_whoOne_319 : decode cX12_whoOne 319 = .ok (.ifCond .eq 7, 3) := by decide +kernel
theorem dX12_whoOne_322 : decode cX12_whoOne 322 = .ok (.iconst 1, 1) := by decide +kernel
theorem dX12_whoOne_323 : decode cX12_whoOne 323 = .ok (.goto 4, 3) := by decide +kernel
theorem dX12_whoOne_326 : decode cX12_whoOne 326 = .ok (.iconst 0, 1) := by decide +kernel
theorem dX12_whoOne_327 : decode cX12_whoOne 327 = .ok (.ireturn, 1) := by decide +kernel
theorem dX12_whoOne_328 : decode cX12_whoOne 328 = .ok (.aload_n 0, 1) := by decide +kernel
theorem dX12_whoOne_329 : decode cX12_whoOne 329 = .ok (.iconst 1, 1) := by decide +kernel
theorem dX12_whoOne_330 : decode cX12_whoOne 330 = .ok (.invokevirtual 317, 3) := by decide +kernel
theorem dX12_whoOne_333 : decode cX12_whoOne 333 = .ok (.ireturn, 1) := by decide +kernel
abbrev rm_z19_X12_whoOne : Room := { frames := 1, cells := 0, slots := 0, locals := 21 }
set_option maxHeartbeats 4000000 in
set_option maxRecDepth 100000 in
theorem z19_X12_whoOne (l : Launch) (E : cE) (h0 : Nat) (r : Nat → Nat) (g : Nat → Value) (gx : Nat → Int32) (gy : Nat → Int32) (gw : Nat → Int32) (gt : Nat → Int32) (fx : Nat → Int32) (fy : Nat → Int32) (fw : Nat → Int32) (bx : Nat → Int32) (by_ : Nat → Int32) (bw : Nat → Int32) (hR : mOK r g) (hI : ∀ k, k < 116 → mRef k = false → g k = mI k) (hm1 : flo (stC 0) (2 * 4) gx gy gw) (hm2 : ∀ d, d < 2 * 4 → gt d = 0) (hm3 : ∀ d, d < 2 * 4 → fx d = gx d ∧ fy d = gy d ∧ fw d = gw d) (hm4 : ∀ d, d < 2 * 4 → bx d = gx d ∧ by_ d = gy d ∧ bw d = gw d) : cM l E yX12_whoOne cX12_whoOne 1 (some .boolean) rm_z19_X12_whoOne [.ref h0] [(h0, ob 12 (mfs (updG (updG (updG (updG (updG (updG (updG (updG (updG (updG g 7 (.int 0)) 1 (.int (nI 0))) 2 (.int (nI 0))) 8 (.int (nI 0))) 35 (.int (nI 0))) 36 (.int (nI 0))) 34 (.int (nI 0))) 4 (.int (nI 0))) 3 (.int (nI 0))) 36 (.int (nI 2))))), ((r 0), aB E 4096 (fun _ => 0)), ((r 31), aI E 10100 (fun _ => 0))] (qI E (fun (r : Int32) (_u : Unit) => r = nI 0) (fun _ => [(h0, ob 12 (mfs (updG (updG (updG (updG (updG (updG (updG (updG (updG (updG (updG g 7 (.int 0)) 1 (.int (nI 0))) 2 (.int (nI 0))) 8 (.int (nI 0))) 35 (.int (nI 0))) 36 (.int (nI 0))) 34 (.int (nI 0))) 4 (.int (nI 0))) 3 (.int (nI 0))) 36 (.int (nI 2))) 8 (.int (nI 1))))), ((r 0), aB E 4096 (fun _ => 0)), ((r 31), aI E 10100 (fun _ => 0))])) := by
  refine cM_of (by decide) (Nat.le_of_ble_eq_true rfl) ?_
  intro p e s m below meth c ls A F hA hS hP hD hK hZ hl
  obtain ⟨hx, hb, hr, hml, hown, hts, hlk, hin⟩ := id F
  have hown : s.vm.findClass RX12 = some m.cls := hown
  have hl : lv_has ls 1 [(0, .ref h0)] := hl
  refine lv_aload_n hx hb dX12_whoOne_0 rfl (lv_at hl 0 rfl) ?_
  refine lv_bipush (v := nI 40) hx hb dX12_whoOne_1 (by decide) ?_
  refine cI_go (wr := []) (cM_runV (As := [.int (nI 40)]) (rest := []) F (z20_X12_isSign l E h0 r g gx gy gw gt fx fy fw bx by_ bw hR hI hm1 hm2 hm3 hm4) yy_X12_isSign yi_X12_isSign wdM_RX12_332 hP hD hS hK hZ hA [0, 1, 2] rfl rfl 0 12 rfl rfl rfl hl.1 rfl (Nat.le_of_ble_eq_true rfl) dX12_whoOne_3 ⟨by decide, by decide⟩ ⟨by decide, by decide⟩) hP hD hS hA [0, 1, 2] [] rfl rfl rfl (by decide) (fun r_243 u_242 H locs hw_241 hP hD hS => ?_)
  try dsimp only at hw_241
  have hP : va_P E.1 vwCl [(h0, ob 12 (mfs (updG (updG (updG (updG (updG (updG (updG (updG (updG (updG g 7 (.int 0)) 1 (.int (nI 0))) 2 (.int (nI 0))) 8 (.int (nI 0))) 35 (.int (nI 0))) 36 (.int (nI 0))) 34 (.int (nI 0))) 4 (.int (nI 0))) 3 (.int (nI 0))) 36 (.int (nI 2))))), ((r 0), aB E 4096 (fun _ => 0)), ((r 31), aI E 10100 (fun _ => 0))] H := hP
  have hD : va_D A [(h0, ob 12 (mfs (updG (updG (updG (updG (updG (updG (updG (updG (updG (updG g 7 (.int 0)) 1 (.int (nI 0))) 2 (.int (nI 0))) 8 (.int (nI 0))) 35 (.int (nI 0))) 36 (.int (nI 0))) 34 (.int (nI 0))) 4 (.int (nI 0))) 3 (.int (nI 0))) 36 (.int (nI 2))))), ((r 0), aB E 4096 (fun _ => 0)), ((r 31), aI E 10100 (fun _ => 0))] := hD
  subst hw_241
  refine lv_if_eq (tgt := 40) hx hb dX12_whoOne_6 (by decide) (fun c_244 => ?_) (fun c_244 => absurd (by decide) c_244)
  refine lv_aload_n hx hb dX12_whoOne_40 rfl (lv_at hl 0 rfl) ?_
  refine va_get (D := E.1) (ci := 12) (v := .int (nI 0)) (C := RX12) (T := TX12) (N := 116) hx hb hts iX12 hown hK hP 0 rfl rfl 3 (by decide) (hts _ wdF_RX12_278) (fun _ h9 => h9) ((mfs_get _ 3 (by decide)).trans (congrArg some (show (updG (updG (updG (updG (updG (updG (updG (updG (updG (updG g 7 (.int 0)) 1 (.int (nI 0))) 2 (.int (nI 0))) 8 (.int (nI 0))) 35 (.int (nI 0))) 36 (.int (nI 0))) 34 (.int (nI 0))) 4 (.int (nI 0))) 3 (.int (nI 0))) 36 (.int (nI 2))) 3 = .int (nI 0) from rfl))) dX12_whoOne_41 ?_
  refine lv_iconst (v := nI 1) hx hb dX12_whoOne_44 (by decide) ?_
  refine lv_icmp_eq (tgt := 54) hx hb dX12_whoOne_45 (by decide) (fun c_245 => absurd c_245 (by decide)) (fun c_245 => ?_)
  refine lv_aload_n hx hb dX12_whoOne_48 rfl (lv_at hl 0 rfl) ?_
  refine lv_iconst (v := nI 1) hx hb dX12_whoOne_49 (by decide) ?_
  refine cI_go (wr := []) (cM_runV (As := [.int (nI 1)]) (rest := []) F (z21_X12_wrong l E h0 r g gx gy gw gt fx fy fw bx by_ bw hR hI hm1 hm2 hm3 hm4) yy_X12_wrong yi_X12_wrong wdM_RX12_317 hP hD hS hK hZ hA [0, 1, 2] rfl rfl 0 12 rfl rfl rfl hl.1 rfl (Nat.le_of_ble_eq_true rfl) dX12_whoOne_50 ⟨by decide, by decide⟩ ⟨by decide, by decide⟩) hP hD hS hA [0, 1, 2] [] rfl rfl rfl (by decide) (fun r_248 u_247 H locs hw_246 hP hD hS => ?_)
  try dsimp only at hw_246
  have hP : va_P E.1 vwCl [(h0, ob 12 (mfs (updG (updG (updG (updG (updG (updG (updG (updG (updG (updG (updG g 7 (.int 0)) 1 (.int (nI 0))) 2 (.int (nI 0))) 8 (.int (nI 0))) 35 (.int (nI 0))) 36 (.int (nI 0))) 34 (.int (nI 0))) 4 (.int (nI 0))) 3 (.int (nI 0))) 36 (.int (nI 2))) 8 (.int (nI 1))))), ((r 0), aB E 4096 (fun _ => 0)), ((r 31), aI E 10100 (fun _ => 0))] H := hP
  have hD : va_D A [(h0, ob 12 (mfs (updG (updG (updG (updG (updG (updG (updG (updG (updG (updG (updG g 7 (.int 0)) 1 (.int (nI 0))) 2 (.int (nI 0))) 8 (.int (nI 0))) 35 (.int (nI 0))) 36 (.int (nI 0))) 34 (.int (nI 0))) 4 (.int (nI 0))) 3 (.int (nI 0))) 36 (.int (nI 2))) 8 (.int (nI 1))))), ((r 0), aB E 4096 (fun _ => 0)), ((r 31), aI E 10100 (fun _ => 0))] := hD
  subst hw_246
  exact cB_ret F hP hD hS hK (by decide) () rfl [0, 1, 2] rfl rfl dX12_whoOne_53 (by decide) (by decide)
theorem yy_X12_whoOne : cY yX12_whoOne cX12_whoOne 1 (some .boolean) 0 := ⟨wdK_X12_whoOne, wdZ_RX12, by decide +kernel⟩
theorem yi_X12_whoOne : cYi yX12_whoOne := ⟨wdN_X12_whoOne, wdS_X12_whoOne⟩
theorem dX12_whoAnd_0 : decode cX12_whoAnd 0 = .ok (.aload_n 0, 1) := by decide +kernel
theorem dX12_whoAnd_1 : decode cX12_whoAnd 1 = .ok (.invokevirtual 416, 3) := by decide +kernel
theorem dX12_whoAnd_4 : decode cX12_whoAnd 4 = .ok (.ifCond .ne 5, 3) := by decide +kernel
theorem dX12_whoAnd_7 : decode cX12_whoAnd 7 = .ok (.iconst 0, 1) := by decide +kernel
theorem dX12_whoAnd_8 : decode cX12_whoAnd 8 = .ok (.ireturn, 1) := by decide +kernel
theorem dX12_whoAnd_9 : decode cX12_whoAnd 9 = .ok (.aload_n 0, 1) := by decide +kernel
theorem dX12_whoAnd_10 : decode cX12_whoAnd 10 = .ok (.bipush 25, 2) := by decide +kernel
theorem dX12_whoAnd_12 : decode cX12_whoAnd 12 = .ok (.invokevirtual 326, 3) := by decide +kernel
theorem dX12_whoAnd_15 : decode cX12_whoAnd 15 = .ok (.ifCond .eq 21, 3) := by decide +kernel
theorem dX12_whoAnd_18 : decode cX12_whoAnd 18 = .ok (.aload_n 0, 1) := by decide +kernel
theorem dX12_whoAnd_19 : decode cX12_whoAnd 19 = .ok (.bipush 25, 2) := by decide +kernel
theorem dX12_whoAnd_21 : decode cX12_whoAnd 21 = .ok (.invokevirtual 378, 3) := by decide +kernel
theorem dX12_whoAnd_24 : decode cX12_whoAnd 24 = .ok (.ifCond .eq 10, 3) := by decide +kernel
theorem dX12_whoAnd_27 : decode cX12_whoAnd 27 = .ok (.aload_n 0, 1) := by decide +kernel
theorem dX12_whoAnd_28 : decode cX12_whoAnd 28 = .ok (.invokevirtual 416, 3) := by decide +kernel
theorem dX12_whoAnd_31 : decode cX12_whoAnd 31 = .ok (.ifCond .ne (-22), 3) := by decide +kernel
theorem dX12_whoAnd_34 : decode cX12_whoAnd 34 = .ok (.iconst 0, 1) := by decide +kernel
theorem dX12_whoAnd_35 : decode cX12_whoAnd 35 = .ok (.ireturn, 1) := by decide +kernel
theorem dX12_whoAnd_36 : decode cX12_whoAnd 36 = .ok (.iconst 1, 1) := by decide +kernel
theorem dX12_whoAnd_37 : decode cX12_whoAnd 37 = .ok (.ireturn, 1) := by decide +kernel
abbrev rm_z18_X12_whoAnd : Room := { frames := 2, cells := 0, slots := 0, locals := 41 }
set_option maxHeartbeats 4000000 in
set_option maxRecDepth 100000 in
theorem z18_X12_whoAnd (l : Launch) (E : cE) (h0 : Nat) (r : Nat → Nat) (g : Nat → Value) (gx : Nat → Int32) (gy : Nat → Int32) (gw : Nat → Int32) (gt : Nat → Int32) (fx : Nat → Int32) (fy : Nat → Int32) (fw : Nat → Int32) (bx : Nat → Int32) (by_ : Nat → Int32) (bw : Nat → Int32) (hR : mOK r g) (hI : ∀ k, k < 116 → mRef k = false → g k = mI k) (hm1 : flo (stC 0) (2 * 4) gx gy gw) (hm2 : ∀ d, d < 2 * 4 → gt d = 0) (hm3 : ∀ d, d < 2 * 4 → fx d = gx d ∧ fy d = gy d ∧ fw d = gw d) (hm4 : ∀ d, d < 2 * 4 → bx d = gx d ∧ by_ d = gy d ∧ bw d = gw d) : cM l E yX12_whoAnd cX12_whoAnd 1 (some .boolean) rm_z18_X12_whoAnd [.ref h0] [(h0, ob 12 (mfs (updG (updG (updG (updG (updG (updG (updG (updG (updG (updG g 7 (.int 0)) 1 (.int (nI 0))) 2 (.int (nI 0))) 8 (.int (nI 0))) 35 (.int (nI 0))) 36 (.int (nI 0))) 34 (.int (nI 0))) 4 (.int (nI 0))) 3 (.int (nI 0))) 36 (.int (nI 2))))), ((r 0), aB E 4096 (fun _ => 0)), ((r 31), aI E 10100 (fun _ => 0))] (qI E (fun (r : Int32) (_u : Unit) => r = nI 0) (fun _ => [(h0, ob 12 (mfs (updG (updG (updG (updG (updG (updG (updG (updG (updG (updG (updG g 7 (.int 0)) 1 (.int (nI 0))) 2 (.int (nI 0))) 8 (.int (nI 0))) 35 (.int (nI 0))) 36 (.int (nI 0))) 34 (.int (nI 0))) 4 (.int (nI 0))) 3 (.int (nI 0))) 36 (.int (nI 2))) 8 (.int (nI 1))))), ((r 0), aB E 4096 (fun _ => 0)), ((r 31), aI E 10100 (fun _ => 0))])) := by
  refine cM_of (by decide) (Nat.le_of_ble_eq_true rfl) ?_
  intro p e s m below meth c ls A F hA hS hP hD hK hZ hl
  obtain ⟨hx, hb, hr, hml, hown, hts, hlk, hin⟩ := id F
  have hown : s.vm.findClass RX12 = some m.cls := hown
  have hl : lv_has ls 1 [(0, .ref h0)] := hl
  refine lv_aload_n hx hb dX12_whoAnd_0 rfl (lv_at hl 0 rfl) ?_
  refine cI_go (wr := []) (cM_runV (As := []) (rest := []) F (z19_X12_whoOne l E h0 r g gx gy gw gt fx fy fw bx by_ bw hR hI hm1 hm2 hm3 hm4) yy_X12_whoOne yi_X12_whoOne wdM_RX12_416 hP hD hS hK hZ hA [0, 1, 2] rfl rfl 0 12 rfl rfl rfl hl.1 rfl (Nat.le_of_ble_eq_true rfl) dX12_whoAnd_1 ⟨by decide, by decide⟩ ⟨by decide, by decide⟩) hP hD hS hA [0, 1, 2] [] rfl rfl rfl (by decide) (fun r_251 u_250 H locs hw_249 hP hD hS => ?_)
  try dsimp only at hw_249
  have hP : va_P E.1 vwCl [(h0, ob 12 (mfs (updG (updG (updG (updG (updG (updG (updG (updG (updG (updG (updG g 7 (.int 0)) 1 (.int (nI 0))) 2 (.int (nI 0))) 8 (.int (nI 0))) 35 (.int (nI 0))) 36 (.int (nI 0))) 34 (.int (nI 0))) 4 (.int (nI 0))) 3 (.int (nI 0))) 36 (.int (nI 2))) 8 (.int (nI 1))))), ((r 0), aB E 4096 (fun _ => 0)), ((r 31), aI E 10100 (fun _ => 0))] H := hP
  have hD : va_D A [(h0, ob 12 (mfs (updG (updG (updG (updG (updG (updG (updG (updG (updG (updG (updG g 7 (.int 0)) 1 (.int (nI 0))) 2 (.int (nI 0))) 8 (.int (nI 0))) 35 (.int (nI 0))) 36 (.int (nI 0))) 34 (.int (nI 0))) 4 (.int (nI 0))) 3 (.int (nI 0))) 36 (.int (nI 2))) 8 (.int (nI 1))))), ((r 0), aB E 4096 (fun _ => 0)), ((r 31), aI E 10100 (fun _ => 0))] := hD
  subst hw_249
  refine lv_if_ne (tgt := 9) hx hb dX12_whoAnd_4 (by decide) (fun c_252 => absurd (by decide) c_252) (fun c_252 => ?_)
  refine lv_iconst (v := nI 0) hx hb dX12_whoAnd_7 (by decide) ?_
  exact cB_ret F hP hD hS hK (by decide) () rfl [0, 1, 2] rfl rfl dX12_whoAnd_8 (by decide) (by decide)
theorem yy_X12_whoAnd : cY yX12_whoAnd cX12_whoAnd 1 (some .boolean) 0 := ⟨wdK_X12_whoAnd, wdZ_RX12, by decide +kernel⟩
theorem yi_X12_whoAnd : cYi yX12_whoAnd := ⟨wdN_X12_whoAnd, wdS_X12_whoAnd⟩
theorem dX12_whoText_0 : decode cX12_whoText 0 = .ok (.aload_n 0, 1) := by decide +kernel
theorem dX12_whoText_1 : decode cX12_whoText 1 = .ok (.invokevirtual 413, 3) := by decide +kernel
theorem dX12_whoText_4 : decode cX12_whoText 4 = .ok (.ifCond .ne 5, 3) := by decide +kernel
theorem dX12_whoText_7 : decode cX12_whoText 7 = .ok (.iconst 0, 1) := by decide +kernel
theorem dX12_whoText_8 : decode cX12_whoText 8 = .ok (.ireturn, 1) := by decide +kernel
theorem dX12_whoText_9 : decode cX12_whoText 9 = .ok (.aload_n 0, 1) := by decide +kernel
theorem dX12_whoText_10 : decode cX12_whoText 10 = .ok (.bipush 24, 2) := by decide +kernel
theorem dX12_whoText_12 : decode cX12_whoText 12 = .ok (.invokevirtual 326, 3) := by decide +kernel
theorem dX12_whoText_15 : decode cX12_whoText 15 = .ok (.ifCond .eq 21, 3) := by decide +kernel
theorem dX12_whoText_18 : decode cX12_whoText 18 = .ok (.aload_n 0, 1) := by decide +kernel
theorem dX12_whoText_19 : decode cX12_whoText 19 = .ok (.bipush 24, 2) := by decide +kernel
theorem dX12_whoText_21 : decode cX12_whoText 21 = .ok (.invokevirtual 378, 3) := by decide +kernel
theorem dX12_whoText_24 : decode cX12_whoText 24 = .ok (.ifCond .eq 10, 3) := by decide +kernel
theorem dX12_whoText_27 : decode cX12_whoText 27 = .ok (.aload_n 0, 1) := by decide +kernel
theorem dX12_whoText_28 : decode cX12_whoText 28 = .ok (.invokevirtual 413, 3) := by decide +kernel
theorem dX12_whoText_31 : decode cX12_whoText 31 = .ok (.ifCond .ne (-22), 3) := by decide +kernel
theorem dX12_whoText_34 : decode cX12_whoText 34 = .ok (.iconst 0, 1) := by decide +kernel
theorem dX12_whoText_35 : decode cX12_whoText 35 = .ok (.ireturn, 1) := by decide +kernel
theorem dX12_whoText_36 : decode cX12_whoText 36 = .ok (.iconst 1, 1) := by decide +kernel
theorem dX12_whoText_37 : decode cX12_whoText 37 = .ok (.ireturn, 1) := by decide +kernel
abbrev rm_z17_X12_whoText : Room := { frames := 3, cells := 0, slots := 0, locals := 61 }
set_option maxHeartbeats 4000000 in
set_option maxRecDepth 100000 in
theorem z17_X12_whoText (l : Launch) (E : cE) (h0 : Nat) (r : Nat → Nat) (g : Nat → Value) (gx : Nat → Int32) (gy : Nat → Int32) (gw : Nat → Int32) (gt : Nat → Int32) (fx : Nat → Int32) (fy : Nat → Int32) (fw : Nat → Int32) (bx : Nat → Int32) (by_ : Nat → Int32) (bw : Nat → Int32) (hR : mOK r g) (hI : ∀ k, k < 116 → mRef k = false → g k = mI k) (hm1 : flo (stC 0) (2 * 4) gx gy gw) (hm2 : ∀ d, d < 2 * 4 → gt d = 0) (hm3 : ∀ d, d < 2 * 4 → fx d = gx d ∧ fy d = gy d ∧ fw d = gw d) (hm4 : ∀ d, d < 2 * 4 → bx d = gx d ∧ by_ d = gy d ∧ bw d = gw d) : cM l E yX12_whoText cX12_whoText 1 (some .boolean) rm_z17_X12_whoText [.ref h0] [(h0, ob 12 (mfs (updG (updG (updG (updG (updG (updG (updG (updG (updG (updG g 7 (.int 0)) 1 (.int (nI 0))) 2 (.int (nI 0))) 8 (.int (nI 0))) 35 (.int (nI 0))) 36 (.int (nI 0))) 34 (.int (nI 0))) 4 (.int (nI 0))) 3 (.int (nI 0))) 36 (.int (nI 2))))), ((r 0), aB E 4096 (fun _ => 0)), ((r 31), aI E 10100 (fun _ => 0))] (qI E (fun (r : Int32) (_u : Unit) => r = nI 0) (fun _ => [(h0, ob 12 (mfs (updG (updG (updG (updG (updG (updG (updG (updG (updG (updG (updG g 7 (.int 0)) 1 (.int (nI 0))) 2 (.int (nI 0))) 8 (.int (nI 0))) 35 (.int (nI 0))) 36 (.int (nI 0))) 34 (.int (nI 0))) 4 (.int (nI 0))) 3 (.int (nI 0))) 36 (.int (nI 2))) 8 (.int (nI 1))))), ((r 0), aB E 4096 (fun _ => 0)), ((r 31), aI E 10100 (fun _ => 0))])) := by
  refine cM_of (by decide) (Nat.le_of_ble_eq_true rfl) ?_
  intro p e s m below meth c ls A F hA hS hP hD hK hZ hl
  obtain ⟨hx, hb, hr, hml, hown, hts, hlk, hin⟩ := id F
  have hown : s.vm.findClass RX12 = some m.cls := hown
  have hl : lv_has ls 1 [(0, .ref h0)] := hl
  refine lv_aload_n hx hb dX12_whoText_0 rfl (lv_at hl 0 rfl) ?_
  refine cI_go (wr := []) (cM_runV (As := []) (rest := []) F (z18_X12_whoAnd l E h0 r g gx gy gw gt fx fy fw bx by_ bw hR hI hm1 hm2 hm3 hm4) yy_X12_whoAnd yi_X12_whoAnd wdM_RX12_413 hP hD hS hK hZ hA [0, 1, 2] rfl rfl 0 12 rfl rfl rfl hl.1 rfl (Nat.le_of_ble_eq_true rfl) dX12_whoText_1 ⟨by decide, by decide⟩ ⟨by decide, by decide⟩) hP hD hS hA [0, 1, 2] [] rfl rfl rfl (by decide) (fun r_255 u_254 H locs hw_253 hP hD hS => ?_)
  try dsimp only at hw_253
  have hP : va_P E.1 vwCl [(h0, ob 12 (mfs (updG (updG (updG (updG (updG (updG (updG (updG (updG (updG (updG g 7 (.int 0)) 1 (.int (nI 0))) 2 (.int (nI 0))) 8 (.int (nI 0))) 35 (.int (nI 0))) 36 (.int (nI 0))) 34 (.int (nI 0))) 4 (.int (nI 0))) 3 (.int (nI 0))) 36 (.int (nI 2))) 8 (.int (nI 1))))), ((r 0), aB E 4096 (fun _ => 0)), ((r 31), aI E 10100 (fun _ => 0))] H := hP
  have hD : va_D A [(h0, ob 12 (mfs (updG (updG (updG (updG (updG (updG (updG (updG (updG (updG (updG g 7 (.int 0)) 1 (.int (nI 0))) 2 (.int (nI 0))) 8 (.int (nI 0))) 35 (.int (nI 0))) 36 (.int (nI 0))) 34 (.int (nI 0))) 4 (.int (nI 0))) 3 (.int (nI 0))) 36 (.int (nI 2))) 8 (.int (nI 1))))), ((r 0), aB E 4096 (fun _ => 0)), ((r 31), aI E 10100 (fun _ => 0))] := hD
  subst hw_253
  refine lv_if_ne (tgt := 9) hx hb dX12_whoText_4 (by decide) (fun c_256 => absurd (by decide) c_256) (fun c_256 => ?_)
  refine lv_iconst (v := nI 0) hx hb dX12_whoText_7 (by decide) ?_
  exact cB_ret F hP hD hS hK (by decide) () rfl [0, 1, 2] rfl rfl dX12_whoText_8 (by decide) (by decide)
theorem yy_X12_whoText : cY yX12_whoText cX12_whoText 1 (some .boolean) 0 := ⟨wdK_X12_whoText, wdZ_RX12, by decide +kernel⟩
theorem yi_X12_whoText : cYi yX12_whoText := ⟨wdN_X12_whoText, wdS_X12_whoText⟩
theorem dX12_stepText_0 : decode cX12_stepText 0 = .ok (.iconst 0, 1) := by decide +kernel
theorem dX12_stepText_1 : decode cX12_stepText 1 = .ok (.istore_n 1, 1) := by decide +kernel
theorem dX12_stepText_2 : decode cX12_stepText 2 = .ok (.iconst 1, 1) := by decide +kernel
theorem dX12_stepText_3 : decode cX12_stepText 3 = .ok (.istore_n 2, 1) := by decide +kernel
theorem dX12_stepText_4 : decode cX12_stepText 4 = .ok (.iload_n 2, 1) := by decide +kernel
theorem dX12_stepText_5 : decode cX12_stepText 5 = .ok (.ifCond .eq 60, 3) := by decide +kernel
theorem dX12_stepText_8 : decode cX12_stepText 8 = .ok (.aload_n 0, 1) := by decide +kernel
theorem dX12_stepText_9 : decode cX12_stepText 9 = .ok (.invokevirtual 410, 3) := by decide +kernel
theorem dX12_stepText_12 : decode cX12_stepText 12 = .ok (.ifCond .eq 11, 3) := by decide +kernel
theorem dX12_stepText_15 : decode cX12_stepText 15 = .ok (.aload_n 0, 1) := by decide +kernel
theorem dX12_stepText_16 : decode cX12_stepText 16 = .ok (.iconst 1, 1) := by decide +kernel
theorem dX12_stepText_17 : decode cX12_stepText 17 = .ok (.invokevirtual 381, 3) := by decide +kernel
theorem dX12_stepText_20 : decode cX12_stepText 20 = .ok (.ifCond .ne 5, 3) := by decide +kernel
theorem dX12_stepText_23 : decode cX12_stepText 23 = .ok (.iconst 0, 1) := by decide +kernel
theorem dX12_stepText_24 : decode cX12_stepText 24 = .ok (.ireturn, 1) := by decide +kernel
theorem dX12_stepText_25 : decode cX12_stepText 25 = .ok (.iinc 1 1, 3) := by decide +kernel
theorem dX12_stepText_28 : decode cX12_stepText 28 = .ok (.aload_n 0, 1) := by decide +kernel
theorem dX12_stepText_29 : decode cX12_stepText 29 = .ok (.bipush 38, 2) := by decide +kernel
theorem dX12_stepText_31 : decode cX12_stepText 31 = .ok (.invokevirtual 332, 3) := by decide +kernel
theorem dX12_stepText_34 : decode cX12_stepText 34 = .ok (.istore_n 2, 1) := by decide +kernel
theorem dX12_stepText_35 : decode cX12_stepText 35 = .ok (.iload_n 2, 1) := by decide +kernel
theorem dX12_stepText_36 : decode cX12_stepText 36 = .ok (.ifCond .eq 14, 3) := by decide +kernel
theorem dX12_stepText_39 : decode cX12_stepText 39 = .ok (.iload_n 1, 1) := by decide +kernel
theorem dX12_stepText_40 : decode cX12_stepText 40 = .ok (.iconst 4, 1) := by decide +kernel
theorem dX12_stepText_41 : decode cX12_stepText 41 = .ok (.if_icmp .ne 9, 3) := by decide +kernel
theorem dX12_stepText_44 : decode cX12_stepText 44 = .ok (.aload_n 0, 1) := by decide +kernel
theorem dX12_stepText_45 : decode cX12_stepText 45 = .ok (.iconst 5, 1) := by decide +kernel
theorem dX12_stepText_46 : decode cX12_stepText 46 = .ok (.invokevirtual 317, 3) := by decide +kernel
theorem dX12_stepText_49 : decode cX12_stepText 49 = .ok (.ireturn, 1) := by decide +kernel
theorem dX12_stepText_50 : decode cX12_stepText 50 = .ok (.iload_n 2, 1) := by decide +kernel
theorem dX12_stepText_51 : decode cX12_stepText 51 = .ok (.ifCond .eq (-47), 3) := by decide +kernel
theorem dX12_stepText_54 : decode cX12_stepText 54 = .ok (.aload_n 0, 1) := by decide +kernel
theorem dX12_stepText_55 : decode cX12_stepText 55 = .ok (.bipush 38, 2) := by decide +kernel
theorem dX12_stepText_57 : decode cX12_stepText 57 = .ok (.invokevirtual 344, 3) := by decide +kernel
theorem dX12_stepText_60 : decode cX12_stepText 60 = .ok (.ifCond .ne (-56), 3) := by decide +kernel
theorem dX12_stepText_63 : decode cX12_stepText 63 = .ok (.iconst 0, 1) := by decide +kernel
theorem dX12_stepText_64 : decode cX12_stepText 64 = .ok (.ireturn, 1) := by decide +kernel
theorem dX12_stepText_65 : decode cX12_stepText 65 = .ok (.iconst 1, 1) := by decide +kernel
theorem dX12_stepText_66 : decode cX12_stepText 66 = .ok (.ireturn, 1) := by decide +kernel
abbrev rm_z16_X12_stepText : Room := { frames := 4, cells := 0, slots := 0, locals := 81 }
set_option maxHeartbeats 4000000 in
set_option maxRecDepth 100000 in
theorem z16_X12_stepText (l : Launch) (E : cE) (h0 : Nat) (r : Nat → Nat) (g : Nat → Value) (gx : Nat → Int32) (gy : Nat → Int32) (gw : Nat → Int32) (gt : Nat → Int32) (fx : Nat → Int32) (fy : Nat → Int32) (fw : Nat → Int32) (bx : Nat → Int32) (by_ : Nat → Int32) (bw : Nat → Int32) (hR : mOK r g) (hI : ∀ k, k < 116 → mRef k = false → g k = mI k) (hm1 : flo (stC 0) (2 * 4) gx gy gw) (hm2 : ∀ d, d < 2 * 4 → gt d = 0) (hm3 : ∀ d, d < 2 * 4 → fx d = gx d ∧ fy d = gy d ∧ fw d = gw d) (hm4 : ∀ d, d < 2 * 4 → bx d = gx d ∧ by_ d = gy d ∧ bw d = gw d) : cM l E yX12_stepText cX12_stepText 3 (some .boolean) rm_z16_X12_stepText [.ref h0] [(h0, ob 12 (mfs (updG (updG (updG (updG (updG (updG (updG (updG (updG (updG g 7 (.int 0)) 1 (.int (nI 0))) 2 (.int (nI 0))) 8 (.int (nI 0))) 35 (.int (nI 0))) 36 (.int (nI 0))) 34 (.int (nI 0))) 4 (.int (nI 0))) 3 (.int (nI 0))) 36 (.int (nI 2))))), ((r 0), aB E 4096 (fun _ => 0)), ((r 31), aI E 10100 (fun _ => 0))] (qI E (fun (r : Int32) (_u : Unit) => r = nI 0) (fun _ => [(h0, ob 12 (mfs (updG (updG (updG (updG (updG (updG (updG (updG (updG (updG (updG g 7 (.int 0)) 1 (.int (nI 0))) 2 (.int (nI 0))) 8 (.int (nI 0))) 35 (.int (nI 0))) 36 (.int (nI 0))) 34 (.int (nI 0))) 4 (.int (nI 0))) 3 (.int (nI 0))) 36 (.int (nI 2))) 8 (.int (nI 1))))), ((r 0), aB E 4096 (fun _ => 0)), ((r 31), aI E 10100 (fun _ => 0))])) := by
  refine cM_of (by decide) (Nat.le_of_ble_eq_true rfl) ?_
  intro p e s m below meth c ls A F hA hS hP hD hK hZ hl
  obtain ⟨hx, hb, hr, hml, hown, hts, hlk, hin⟩ := id F
  have hown : s.vm.findClass RX12 = some m.cls := hown
  have hl : lv_has ls 3 [(0, .ref h0)] := hl
  refine lv_iconst (v := nI 0) hx hb dX12_stepText_0 (by decide) ?_
  refine lv_istore_n (lv' := [(1, .int (nI 0)), (0, .ref h0)]) hx hb dX12_stepText_1 rfl hl (by decide) rfl (fun ls hl => ?_)
  refine lv_iconst (v := nI 1) hx hb dX12_stepText_2 (by decide) ?_
  refine lv_istore_n (lv' := [(2, .int (nI 1)), (1, .int (nI 0)), (0, .ref h0)]) hx hb dX12_stepText_3 rfl hl (by decide) rfl (fun ls hl => ?_)
  refine lv_iload_n hx hb dX12_stepText_4 rfl (lv_at hl 0 rfl) ?_
  refine lv_if_eq (tgt := 65) hx hb dX12_stepText_5 (by decide) (fun c_239 => absurd c_239 (by decide)) (fun c_239 => ?_)
  refine lv_aload_n hx hb dX12_stepText_8 rfl (lv_at hl 2 rfl) ?_
  refine cI_go (wr := []) (cM_runV (As := []) (rest := []) F (z17_X12_whoText l E h0 r g gx gy gw gt fx fy fw bx by_ bw hR hI hm1 hm2 hm3 hm4) yy_X12_whoText yi_X12_whoText wdM_RX12_410 hP hD hS hK hZ hA [0, 1, 2] rfl rfl 0 12 rfl rfl rfl hl.1 rfl (Nat.le_of_ble_eq_true rfl) dX12_stepText_9 ⟨by decide, by decide⟩ ⟨by decide, by decide⟩) hP hD hS hA [0, 1, 2] [] rfl rfl rfl (by decide) (fun r_259 u_258 H locs hw_257 hP hD hS => ?_)
  try dsimp only at hw_257
  have hP : va_P E.1 vwCl [(h0, ob 12 (mfs (updG (updG (updG (updG (updG (updG (updG (updG (updG (updG (updG g 7 (.int 0)) 1 (.int (nI 0))) 2 (.int (nI 0))) 8 (.int (nI 0))) 35 (.int (nI 0))) 36 (.int (nI 0))) 34 (.int (nI 0))) 4 (.int (nI 0))) 3 (.int (nI 0))) 36 (.int (nI 2))) 8 (.int (nI 1))))), ((r 0), aB E 4096 (fun _ => 0)), ((r 31), aI E 10100 (fun _ => 0))] H := hP
  have hD : va_D A [(h0, ob 12 (mfs (updG (updG (updG (updG (updG (updG (updG (updG (updG (updG (updG g 7 (.int 0)) 1 (.int (nI 0))) 2 (.int (nI 0))) 8 (.int (nI 0))) 35 (.int (nI 0))) 36 (.int (nI 0))) 34 (.int (nI 0))) 4 (.int (nI 0))) 3 (.int (nI 0))) 36 (.int (nI 2))) 8 (.int (nI 1))))), ((r 0), aB E 4096 (fun _ => 0)), ((r 31), aI E 10100 (fun _ => 0))] := hD
  subst hw_257
  refine lv_if_eq (tgt := 23) hx hb dX12_stepText_12 (by decide) (fun c_260 => ?_) (fun c_260 => absurd (by decide) c_260)
  refine lv_iconst (v := nI 0) hx hb dX12_stepText_23 (by decide) ?_
  exact cB_ret F hP hD hS hK (by decide) () rfl [0, 1, 2] rfl rfl dX12_stepText_24 (by decide) (by decide)
theorem yy_X12_stepText : cY yX12_stepText cX12_stepText 3 (some .boolean) 0 := ⟨wdK_X12_stepText, wdZ_RX12, by decide +kernel⟩
theorem yi_X12_stepText : cYi yX12_stepText := ⟨wdN_X12_stepText, wdS_X12_stepText⟩
theorem dX12_call_0 : decode cX12_call 0 = .ok (.aload_n 0, 1) := by decide +kernel
theorem dX12_call_1 : decode cX12_call 1 = .ok (.invokevirtual 425, 3) := by decide +kernel
theorem dX12_call_4 : decode cX12_call 4 = .ok (.aload_n 0, 1) := by decide +kernel
theorem dX12_call_5 : decode cX12_call 5 = .ok (.iconst 2, 1) := by decide +kernel
theorem dX12_call_6 : decode cX12_call 6 = .ok (.putfield 311, 3) := by decide +kernel
theorem dX12_call_9 : decode cX12_call 9 = .ok (.aload_n 0, 1) := by decide +kernel
theorem dX12_call_10 : decode cX12_call 10 = .ok (.invokevirtual 395, 3) := by decide +kernel
theorem dX12_call_13 : decode cX12_call 13 = .ok (.ifCond .eq 22, 3) := by decide +kernel
theorem dX12_call_16 : decode cX12_call 16 = .ok (.aload_n 0, 1) := by decide +kernel
theorem dX12_call_17 : decode cX12_call 17 = .ok (.getfield 278, 3) := by decide +kernel
theorem dX12_call_20 : decode cX12_call 20 = .ok (.ifCond .eq 11, 3) := by decide +kernel
theorem dX12_call_23 : decode cX12_call 23 = .ok (.aload_n 0, 1) := by decide +kernel
theorem dX12_call_24 : decode cX12_call 24 = .ok (.iconst 1, 1) := by decide +kernel
theorem dX12_call_25 : decode cX12_call 25 = .ok (.invokevirtual 317, 3) := by decide +kernel
theorem dX12_call_28 : decode cX12_call 28 = .ok (.ifCond .eq 7, 3) := by decide +kernel
theorem dX12_call_31 : decode cX12_call 31 = .ok (.iconst 1, 1) := by decide +kernel
theorem dX12_call_32 : decode cX12_call 32 = .ok (.goto 4, 3) := by decide +kernel
theorem dX12_call_35 : decode cX12_call 35 = .ok (.iconst 0, 1) := by decide +kernel
theorem dX12_call_36 : decode cX12_call 36 = .ok (.istore_n 1, 1) := by decide +kernel
theorem dX12_call_37 : decode cX12_call 37 = .ok (.aload_n 0, 1) := by decide +kernel
theorem dX12_call_38 : decode cX12_call 38 = .ok (.iconst 0, 1) := by decide +kernel
theorem dX12_call_39 : decode cX12_call 39 = .ok (.putfield 311, 3) := by decide +kernel
theorem dX12_call_42 : decode cX12_call 42 = .ok (.iload_n 1, 1) := by decide +kernel
theorem dX12_call_43 : decode cX12_call 43 = .ok (.ifCond .ne 11, 3) := by decide +kernel
theorem dX12_call_46 : decode cX12_call 46 = .ok (.bipush (-2), 2) := by decide +kernel
theorem dX12_call_48 : decode cX12_call 48 = .ok (.aload_n 0, 1) := by decide +kernel
theorem dX12_call_49 : decode cX12_call 49 = .ok (.getfield 275, 3) := by decide +kernel
theorem dX12_call_52 : decode cX12_call 52 = .ok (.isub, 1) := by decide +kernel
theorem dX12_call_53 : decode cX12_call 53 = .ok (.ireturn, 1) := by decide +kernel
theorem dX12_call_54 : decode cX12_call 54 = .ok (.aload_n 0, 1) := by decide +kernel
theorem dX12_call_55 : decode cX12_call 55 = .ok (.getfield 65, 3) := by decide +kernel
theorem dX12_call_58 : decode cX12_call 58 = .ok (.sipush 6000, 3) := by decide +kernel
theorem dX12_call_61 : decode cX12_call 61 = .ok (.aload_n 0, 1) := by decide +kernel
theorem dX12_call_62 : decode cX12_call 62 = .ok (.getfield 320, 3) := by decide +kernel
theorem dX12_call_65 : decode cX12_call 65 = .ok (.iadd, 1) := by decide +kernel
theorem dX12_call_66 : decode cX12_call 66 = .ok (.sipush 5000, 3) := by decide +kernel
theorem dX12_call_69 : decode cX12_call 69 = .ok (.iastore, 1) := by decide +kernel
theorem dX12_call_70 : decode cX12_call 70 = .ok (.aload_n 0, 1) := by decide +kernel
theorem dX12_call_71 : decode cX12_call 71 = .ok (.invokevirtual 577, 3) := by decide +kernel
theorem dX12_call_74 : decode cX12_call 74 = .ok (.aload_n 0, 1) := by decide +kernel
theorem dX12_call_75 : decode cX12_call 75 = .ok (.sipush 6000, 3) := by decide +kernel
theorem dX12_call_78 : decode cX12_call 78 = .ok (.aload_n 0, 1) := by decide +kernel
theorem dX12_call_79 : decode cX12_call 79 = .ok (.invokevirtual 580, 3) := by decide +kernel
theorem dX12_call_82 : decode cX12_call 82 = .ok (.invokevirtual 584, 3) := by decide +kernel
theorem dX12_call_85 : decode cX12_call 85 = .ok (.istore_n 2, 1) := by decide +kernel
theorem dX12_call_86 : decode cX12_call 86 = .ok (.iload_n 2, 1) := by decide +kernel
theorem dX12_call_87 : decode cX12_call 87 = .ok (.ifCond .ne 7, 3) := by decide +kernel
theorem dX12_call_90 : decode cX12_call 90 = .ok (.aload_n 0, 1) := by decide +kernel
theorem dX12_call_91 : decode cX12_call 91 = .ok (.invokevirtual 588, 3) := by decide +kernel
theorem dX12_call_94 : decode cX12_call 94 = .ok (.iload_n 2, 1) := by decide +kernel
theorem dX12_call_95 : decode cX12_call 95 = .ok (.ireturn, 1) := by decide +kernel
abbrev rm_p_X12_call : Room := { frames := 5, cells := 0, slots := 0, locals := 103 }
set_option maxHeartbeats 4000000 in
set_option maxRecDepth 100000 in
theorem p_X12_call (l : Launch) (E : cE) (h0 : Nat) (r : Nat → Nat) (g : Nat → Value) (gx : Nat → Int32) (gy : Nat → Int32) (gw : Nat → Int32) (gt : Nat → Int32) (fx : Nat → Int32) (fy : Nat → Int32) (fw : Nat → Int32) (bx : Nat → Int32) (by_ : Nat → Int32) (bw : Nat → Int32) (hR : mOK r g) (hI : ∀ k, k < 116 → mRef k = false → g k = mI k) (hm1 : flo (stC 0) (2 * 4) gx gy gw) (hm2 : ∀ d, d < 2 * 4 → gt d = 0) (hm3 : ∀ d, d < 2 * 4 → fx d = gx d ∧ fy d = gy d ∧ fw d = gw d) (hm4 : ∀ d, d < 2 * 4 → bx d = gx d ∧ by_ d = gy d ∧ bw d = gw d) : cM l E yX12_call cX12_call 3 (some .int) rm_p_X12_call [.ref h0] [(h0, ob 12 (mfs g)), ((r 0), aB E 4096 (fun _ => 0)), ((r 31), aI E 10100 (fun _ => 0))] (qI E (fun (r : Int32) (_u : Unit) => r = (-2)) (fun _ => [])) := by
  refine cM_of (by decide) (Nat.le_of_ble_eq_true rfl) ?_
  intro p e s m below meth c ls A F hA hS hP hD hK hZ hl
  obtain ⟨hx, hb, hr, hml, hown, hts, hlk, hin⟩ := id F
  have hown : s.vm.findClass RX12 = some m.cls := hown
  have hl : lv_has ls 3 [(0, .ref h0)] := hl
  refine lv_aload_n hx hb dX12_call_0 rfl (lv_at hl 0 rfl) ?_
  refine cV_go (wr := []) (cM_runV (As := []) (rest := []) F (z10_X12_opensText l E h0 r g gx gy gw gt fx fy fw bx by_ bw hR hI hm1 hm2 hm3 hm4) yy_X12_opensText yi_X12_opensText wdM_RX12_425 hP hD hS hK hZ hA [0, 1, 2] rfl rfl 0 12 rfl rfl rfl hl.1 rfl (Nat.le_of_ble_eq_true rfl) dX12_call_1 ⟨by decide, by decide⟩ ⟨by decide, by decide⟩) hP hD hS hA [0, 1, 2] [] rfl rfl rfl (by decide) (fun u_237 H locs hw_236 hP hD hS => ?_)
  try dsimp only at hw_236
  have hP : va_P E.1 vwCl [(h0, ob 12 (mfs (updG (updG (updG (updG (updG (updG (updG (updG (updG g 7 (.int 0)) 1 (.int (nI 0))) 2 (.int (nI 0))) 8 (.int (nI 0))) 35 (.int (nI 0))) 36 (.int (nI 0))) 34 (.int (nI 0))) 4 (.int (nI 0))) 3 (.int (nI 0))))), ((r 0), aB E 4096 (fun _ => 0)), ((r 31), aI E 10100 (fun _ => 0))] H := hP
  have hD : va_D A [(h0, ob 12 (mfs (updG (updG (updG (updG (updG (updG (updG (updG (updG g 7 (.int 0)) 1 (.int (nI 0))) 2 (.int (nI 0))) 8 (.int (nI 0))) 35 (.int (nI 0))) 36 (.int (nI 0))) 34 (.int (nI 0))) 4 (.int (nI 0))) 3 (.int (nI 0))))), ((r 0), aB E 4096 (fun _ => 0)), ((r 31), aI E 10100 (fun _ => 0))] := hD
  refine lv_aload_n hx hb dX12_call_4 rfl (lv_at hl 0 rfl) ?_
  refine lv_iconst (v := nI 2) hx hb dX12_call_5 (by decide) ?_
  refine va_put (D := E.1) (ci := 12) (v := .int (nI 2)) (ty := .int) (C := RX12) (T := TX12) (N := 116) hx hb hts iX12 tyX12 tyX12_ok nmX12 hown hK hP hD hS 0 rfl rfl 36 (by decide) (hts _ wdF_RX12_311) (fun _ h9 => h9) rfl (by decide +kernel) rfl rfl (by rw [mfs_len]; decide) dX12_call_6 (fun H locs hP hD hS => ?_)
  have hP : va_P E.1 vwCl [(h0, ob 12 ((mfs (updG (updG (updG (updG (updG (updG (updG (updG (updG g 7 (.int 0)) 1 (.int (nI 0))) 2 (.int (nI 0))) 8 (.int (nI 0))) 35 (.int (nI 0))) 36 (.int (nI 0))) 34 (.int (nI 0))) 4 (.int (nI 0))) 3 (.int (nI 0)))).set 36 (.int (nI 2)))), ((r 0), aB E 4096 (fun _ => 0)), ((r 31), aI E 10100 (fun _ => 0))] H := hP
  have hD : va_D A [(h0, ob 12 ((mfs (updG (updG (updG (updG (updG (updG (updG (updG (updG g 7 (.int 0)) 1 (.int (nI 0))) 2 (.int (nI 0))) 8 (.int (nI 0))) 35 (.int (nI 0))) 36 (.int (nI 0))) 34 (.int (nI 0))) 4 (.int (nI 0))) 3 (.int (nI 0)))).set 36 (.int (nI 2)))), ((r 0), aB E 4096 (fun _ => 0)), ((r 31), aI E 10100 (fun _ => 0))] := hD
  rw [mfs_set _ 36 _ (by decide)] at hP hD
  refine lv_aload_n hx hb dX12_call_9 rfl (lv_at hl 0 rfl) ?_
  refine cI_go (wr := []) (cM_runV (As := []) (rest := []) F (z16_X12_stepText l E h0 r g gx gy gw gt fx fy fw bx by_ bw hR hI hm1 hm2 hm3 hm4) yy_X12_stepText yi_X12_stepText wdM_RX12_395 hP hD hS hK hZ hA [0, 1, 2] rfl rfl 0 12 rfl rfl rfl hl.1 rfl (Nat.le_of_ble_eq_true rfl) dX12_call_10 ⟨by decide, by decide⟩ ⟨by decide, by decide⟩) hP hD hS hA [0, 1, 2] [] rfl rfl rfl (by decide) (fun r_263 u_262 H locs hw_261 hP hD hS => ?_)
  try dsimp only at hw_261
  have hP : va_P E.1 vwCl [(h0, ob 12 (mfs (updG (updG (updG (updG (updG (updG (updG (updG (updG (updG (updG g 7 (.int 0)) 1 (.int (nI 0))) 2 (.int (nI 0))) 8 (.int (nI 0))) 35 (.int (nI 0))) 36 (.int (nI 0))) 34 (.int (nI 0))) 4 (.int (nI 0))) 3 (.int (nI 0))) 36 (.int (nI 2))) 8 (.int (nI 1))))), ((r 0), aB E 4096 (fun _ => 0)), ((r 31), aI E 10100 (fun _ => 0))] H := hP
  have hD : va_D A [(h0, ob 12 (mfs (updG (updG (updG (updG (updG (updG (updG (updG (updG (updG (updG g 7 (.int 0)) 1 (.int (nI 0))) 2 (.int (nI 0))) 8 (.int (nI 0))) 35 (.int (nI 0))) 36 (.int (nI 0))) 34 (.int (nI 0))) 4 (.int (nI 0))) 3 (.int (nI 0))) 36 (.int (nI 2))) 8 (.int (nI 1))))), ((r 0), aB E 4096 (fun _ => 0)), ((r 31), aI E 10100 (fun _ => 0))] := hD
  subst hw_261
  refine lv_if_eq (tgt := 35) hx hb dX12_call_13 (by decide) (fun c_264 => ?_) (fun c_264 => absurd (by decide) c_264)
  refine lv_iconst (v := nI 0) hx hb dX12_call_35 (by decide) ?_
  refine lv_istore_n (lv' := [(1, .int (nI 0)), (0, .ref h0)]) hx hb dX12_call_36 rfl hl (by decide) rfl (fun ls hl => ?_)
  refine lv_aload_n hx hb dX12_call_37 rfl (lv_at hl 1 rfl) ?_
  refine lv_iconst (v := nI 0) hx hb dX12_call_38 (by decide) ?_
  refine va_put (D := E.1) (ci := 12) (v := .int (nI 0)) (ty := .int) (C := RX12) (T := TX12) (N := 116) hx hb hts iX12 tyX12 tyX12_ok nmX12 hown hK hP hD hS 0 rfl rfl 36 (by decide) (hts _ wdF_RX12_311) (fun _ h9 => h9) rfl (by decide +kernel) rfl rfl (by rw [mfs_len]; decide) dX12_call_39 (fun H locs hP hD hS => ?_)
  have hP : va_P E.1 vwCl [(h0, ob 12 ((mfs (updG (updG (updG (updG (updG (updG (updG (updG (updG (updG (updG g 7 (.int 0)) 1 (.int (nI 0))) 2 (.int (nI 0))) 8 (.int (nI 0))) 35 (.int (nI 0))) 36 (.int (nI 0))) 34 (.int (nI 0))) 4 (.int (nI 0))) 3 (.int (nI 0))) 36 (.int (nI 2))) 8 (.int (nI 1)))).set 36 (.int (nI 0)))), ((r 0), aB E 4096 (fun _ => 0)), ((r 31), aI E 10100 (fun _ => 0))] H := hP
  have hD : va_D A [(h0, ob 12 ((mfs (updG (updG (updG (updG (updG (updG (updG (updG (updG (updG (updG g 7 (.int 0)) 1 (.int (nI 0))) 2 (.int (nI 0))) 8 (.int (nI 0))) 35 (.int (nI 0))) 36 (.int (nI 0))) 34 (.int (nI 0))) 4 (.int (nI 0))) 3 (.int (nI 0))) 36 (.int (nI 2))) 8 (.int (nI 1)))).set 36 (.int (nI 0)))), ((r 0), aB E 4096 (fun _ => 0)), ((r 31), aI E 10100 (fun _ => 0))] := hD
  rw [mfs_set _ 36 _ (by decide)] at hP hD
  refine lv_iload_n hx hb dX12_call_42 rfl (lv_at hl 0 rfl) ?_
  refine lv_if_ne (tgt := 54) hx hb dX12_call_43 (by decide) (fun c_265 => absurd (by decide) c_265) (fun c_265 => ?_)
  refine lv_bipush (v := (-2)) hx hb dX12_call_46 (by decide) ?_
  refine lv_aload_n hx hb dX12_call_48 rfl (lv_at hl 1 rfl) ?_
  refine va_get (D := E.1) (ci := 12) (v := .int (nI 0)) (C := RX12) (T := TX12) (N := 116) hx hb hts iX12 hown hK hP 0 rfl rfl 4 (by decide) (hts _ wdF_RX12_275) (fun _ h9 => h9) ((mfs_get _ 4 (by decide)).trans (congrArg some (show (updG (updG (updG (updG (updG (updG (updG (updG (updG (updG (updG (updG g 7 (.int 0)) 1 (.int (nI 0))) 2 (.int (nI 0))) 8 (.int (nI 0))) 35 (.int (nI 0))) 36 (.int (nI 0))) 34 (.int (nI 0))) 4 (.int (nI 0))) 3 (.int (nI 0))) 36 (.int (nI 2))) 8 (.int (nI 1))) 36 (.int (nI 0))) 4 = .int (nI 0) from rfl))) dX12_call_49 ?_
  refine lv_isub hx hb dX12_call_52 ?_
  rw [show ((-2) - (nI 0) : Int32) = (-2) from by decide]
  exact cI_ret F hP hD hS hK () rfl [] rfl rfl dX12_call_53 (by decide) (by decide)
theorem yy_X12_call : cY yX12_call cX12_call 3 (some .int) 0 := ⟨wdK_X12_call, wdZ_RX12, by decide +kernel⟩
theorem yi_X12_call : cYi yX12_call := ⟨wdN_X12_call, wdS_X12_call⟩
abbrev rm_z25_X12_byteAt : Room := { frames := 0, cells := 0, slots := 0, locals := 0 }
set_option maxHeartbeats 4000000 in
set_option maxRecDepth 100000 in
theorem z25_X12_byteAt (l : Launch) (E : cE) (h0 : Nat) (r : Nat → Nat) (g : Nat → Value) (gx : Nat → Int32) (gy : Nat → Int32) (gw : Nat → Int32) (gt : Nat → Int32) (fx : Nat → Int32) (fy : Nat → Int32) (fw : Nat → Int32) (bx : Nat → Int32) (by_ : Nat → Int32) (bw : Nat → Int32) (v : Int32) (hR : mOK r g) (hI : ∀ k, k < 116 → mRef k = false → g k = mI k) (hm1 : flo (stC 0) (2 * 4) gx gy gw) (hm2 : ∀ d, d < 2 * 4 → gt d = 0) (hm3 : ∀ d, d < 2 * 4 → fx d = gx d ∧ fy d = gy d ∧ fw d = gw d) (hm4 : ∀ d, d < 2 * 4 → bx d = gx d ∧ by_ d = gy d ∧ bw d = gw d) : cM l E yX12_byteAt cX12_byteAt 2 (some .int) rm_z25_X12_byteAt [.ref h0, .int (nI 0)] [(h0, ob 12 (mfs (updG (updG (updG (updG (updG (updG (updG g 7 (.int 0)) 1 (.int (nI 0))) 2 (.int (nI 0))) 8 (.int (nI 0))) 35 (.int (nI 0))) 36 (.int (nI 0))) 34 (.int (nI 0))))), ((r 0), aB E 4096 (fun _ => 0))] (qI E (fun (r : Int32) (_u : Unit) => r = (-1)) (fun _ => [(h0, ob 12 (mfs (updG (updG (updG (updG (updG (updG (updG g 7 (.int 0)) 1 (.int (nI 0))) 2 (.int (nI 0))) 8 (.int (nI 0))) 35 (.int (nI 0))) 36 (.int (nI 0))) 34 (.int (nI 0))))), ((r 0), aB E 4096 (fun _ => 0))])) := by
  refine cM_of (by decide) (Nat.le_of_ble_eq_true rfl) ?_
  intro p e s m below meth c ls A F hA hS hP hD hK hZ hl
  obtain ⟨hx, hb, hr, hml, hown, hts, hlk, hin⟩ := id F
  have hown : s.vm.findClass RX12 = some m.cls := hown
  have hl : lv_has ls 2 [(0, .ref h0), (1, .int (nI 0))] := hl
  refine lv_iload_n hx hb dX12_byteAt_0 rfl (lv_at hl 1 rfl) ?_
  refine lv_aload_n hx hb dX12_byteAt_1 rfl (lv_at hl 0 rfl) ?_
  refine va_get (D := E.1) (ci := 12) (v := .int 0) (C := RX12) (T := TX12) (N := 116) hx hb hts iX12 hown hK hP 0 rfl rfl 7 (by decide) (hts _ wdF_RX12_261) (fun _ h9 => h9) ((mfs_get _ 7 (by decide)).trans (congrArg some (show (updG (updG (updG (updG (updG (updG (updG g 7 (.int 0)) 1 (.int (nI 0))) 2 (.int (nI 0))) 8 (.int (nI 0))) 35 (.int (nI 0))) 36 (.int (nI 0))) 34 (.int (nI 0))) 7 = .int 0 from rfl))) dX12_byteAt_2 ?_
  refine lv_icmp_ge (tgt := 21) hx hb dX12_byteAt_5 (by decide) (fun c_266 => ?_) (fun c_266 => absurd (by decide) c_266)
  refine lv_iconst (v := (-1)) hx hb dX12_byteAt_21 (by decide) ?_
  exact cI_ret F hP hD hS hK () rfl [0, 1] rfl rfl dX12_byteAt_22 (by decide) (by decide)
abbrev rm_z26_X12_isBlank : Room := { frames := 0, cells := 0, slots := 0, locals := 0 }
set_option maxHeartbeats 4000000 in
set_option maxRecDepth 100000 in
theorem z26_X12_isBlank (l : Launch) (E : cE) (h0 : Nat) (r : Nat → Nat) (g : Nat → Value) (gx : Nat → Int32) (gy : Nat → Int32) (gw : Nat → Int32) (gt : Nat → Int32) (fx : Nat → Int32) (fy : Nat → Int32) (fw : Nat → Int32) (bx : Nat → Int32) (by_ : Nat → Int32) (bw : Nat → Int32) (v : Int32) (hR : mOK r g) (hI : ∀ k, k < 116 → mRef k = false → g k = mI k) (hm1 : flo (stC 0) (2 * 4) gx gy gw) (hm2 : ∀ d, d < 2 * 4 → gt d = 0) (hm3 : ∀ d, d < 2 * 4 → fx d = gx d ∧ fy d = gy d ∧ fw d = gw d) (hm4 : ∀ d, d < 2 * 4 → bx d = gx d ∧ by_ d = gy d ∧ bw d = gw d) : cM l E yX12_isBlank cX12_isBlank 1 (some .boolean) rm_z26_X12_isBlank [.int (-1)] [(h0, ob 12 (mfs (updG (updG (updG (updG (updG (updG (updG g 7 (.int 0)) 1 (.int (nI 0))) 2 (.int (nI 0))) 8 (.int (nI 0))) 35 (.int (nI 0))) 36 (.int (nI 0))) 34 (.int (nI 0))))), ((r 0), aB E 4096 (fun _ => 0))] (qI E (fun (r : Int32) (_u : Unit) => r = nI 0) (fun _ => [(h0, ob 12 (mfs (updG (updG (updG (updG (updG (updG (updG g 7 (.int 0)) 1 (.int (nI 0))) 2 (.int (nI 0))) 8 (.int (nI 0))) 35 (.int (nI 0))) 36 (.int (nI 0))) 34 (.int (nI 0))))), ((r 0), aB E 4096 (fun _ => 0))])) := by
  refine cM_of (by decide) (Nat.le_of_ble_eq_true rfl) ?_
  intro p e s m below meth c ls A F hA hS hP hD hK hZ hl
  obtain ⟨hx, hb, hr, hml, hown, hts, hlk, hin⟩ := id F
  have hown : s.vm.findClass RX12 = some m.cls := hown
  have hl : lv_has ls 1 [(0, .int (-1))] := hl
  refine lv_iload_n hx hb dX12_isBlank_0 rfl (lv_at hl 0 rfl) ?_
  refine lv_bipush (v := nI 9) hx hb dX12_isBlank_1 (by decide) ?_
  refine lv_icmp_eq (tgt := 24) hx hb dX12_isBlank_3 (by decide) (fun c_270 => absurd c_270 (by decide)) (fun c_270 => ?_)
  refine lv_iload_n hx hb dX12_isBlank_6 rfl (lv_at hl 0 rfl) ?_
  refine lv_bipush (v := nI 10) hx hb dX12_isBlank_7 (by decide) ?_
  refine lv_icmp_eq (tgt := 24) hx hb dX12_isBlank_9 (by decide) (fun c_271 => absurd c_271 (by decide)) (fun c_271 => ?_)
  refine lv_iload_n hx hb dX12_isBlank_12 rfl (lv_at hl 0 rfl) ?_
  refine lv_bipush (v := nI 13) hx hb dX12_isBlank_13 (by decide) ?_
  refine lv_icmp_eq (tgt := 24) hx hb dX12_isBlank_15 (by decide) (fun c_272 => absurd c_272 (by decide)) (fun c_272 => ?_)
  refine lv_iload_n hx hb dX12_isBlank_18 rfl (lv_at hl 0 rfl) ?_
  refine lv_bipush (v := nI 32) hx hb dX12_isBlank_19 (by decide) ?_
  refine lv_icmp_ne (tgt := 28) hx hb dX12_isBlank_21 (by decide) (fun c_273 => ?_) (fun c_273 => absurd c_273 (by decide))
  refine lv_iconst (v := nI 0) hx hb dX12_isBlank_28 (by decide) ?_
  exact cB_ret F hP hD hS hK (by decide) () rfl [0, 1] rfl rfl dX12_isBlank_29 (by decide) (by decide)
abbrev rm_z27_X12_byteAt : Room := { frames := 0, cells := 0, slots := 0, locals := 0 }
set_option maxHeartbeats 4000000 in
set_option maxRecDepth 100000 in
theorem z27_X12_byteAt (l : Launch) (E : cE) (h0 : Nat) (r : Nat → Nat) (g : Nat → Value) (gx : Nat → Int32) (gy : Nat → Int32) (gw : Nat → Int32) (gt : Nat → Int32) (fx : Nat → Int32) (fy : Nat → Int32) (fw : Nat → Int32) (bx : Nat → Int32) (by_ : Nat → Int32) (bw : Nat → Int32) (v : Int32) (hR : mOK r g) (hI : ∀ k, k < 116 → mRef k = false → g k = mI k) (hm1 : flo (stC 0) (2 * 4) gx gy gw) (hm2 : ∀ d, d < 2 * 4 → gt d = 0) (hm3 : ∀ d, d < 2 * 4 → fx d = gx d ∧ fy d = gy d ∧ fw d = gw d) (hm4 : ∀ d, d < 2 * 4 → bx d = gx d ∧ by_ d = gy d ∧ bw d = gw d) : cM l E yX12_byteAt cX12_byteAt 2 (some .int) rm_z27_X12_byteAt [.ref h0, .int (nI 0)] [(h0, ob 12 (mfs (updG (updG (updG (updG (updG (updG (updG g 7 (.int 0)) 1 (.int (nI 0))) 2 (.int (nI 0))) 8 (.int (nI 0))) 35 (.int (nI 0))) 36 (.int (nI 0))) 34 (.int (nI 0))))), ((r 0), aB E 4096 (fun _ => 0))] (qI E (fun (r : Int32) (_u : Unit) => r = (-1)) (fun _ => [(h0, ob 12 (mfs (updG (updG (updG (updG (updG (updG (updG g 7 (.int 0)) 1 (.int (nI 0))) 2 (.int (nI 0))) 8 (.int (nI 0))) 35 (.int (nI 0))) 36 (.int (nI 0))) 34 (.int (nI 0))))), ((r 0), aB E 4096 (fun _ => 0))])) := by
  refine cM_of (by decide) (Nat.le_of_ble_eq_true rfl) ?_
  intro p e s m below meth c ls A F hA hS hP hD hK hZ hl
  obtain ⟨hx, hb, hr, hml, hown, hts, hlk, hin⟩ := id F
  have hown : s.vm.findClass RX12 = some m.cls := hown
  have hl : lv_has ls 2 [(0, .ref h0), (1, .int (nI 0))] := hl
  refine lv_iload_n hx hb dX12_byteAt_0 rfl (lv_at hl 1 rfl) ?_
  refine lv_aload_n hx hb dX12_byteAt_1 rfl (lv_at hl 0 rfl) ?_
  refine va_get (D := E.1) (ci := 12) (v := .int 0) (C := RX12) (T := TX12) (N := 116) hx hb hts iX12 hown hK hP 0 rfl rfl 7 (by decide) (hts _ wdF_RX12_261) (fun _ h9 => h9) ((mfs_get _ 7 (by decide)).trans (congrArg some (show (updG (updG (updG (updG (updG (updG (updG g 7 (.int 0)) 1 (.int (nI 0))) 2 (.int (nI 0))) 8 (.int (nI 0))) 35 (.int (nI 0))) 36 (.int (nI 0))) 34 (.int (nI 0))) 7 = .int 0 from rfl))) dX12_byteAt_2 ?_
  refine lv_icmp_ge (tgt := 21) hx hb dX12_byteAt_5 (by decide) (fun c_278 => ?_) (fun c_278 => absurd (by decide) c_278)
  refine lv_iconst (v := (-1)) hx hb dX12_byteAt_21 (by decide) ?_
  exact cI_ret F hP hD hS hK () rfl [0, 1] rfl rfl dX12_byteAt_22 (by decide) (by decide)
abbrev rm_z28_X12_byteAt : Room := { frames := 0, cells := 0, slots := 0, locals := 0 }
set_option maxHeartbeats 4000000 in
set_option maxRecDepth 100000 in
theorem z28_X12_byteAt (l : Launch) (E : cE) (h0 : Nat) (r : Nat → Nat) (g : Nat → Value) (gx : Nat → Int32) (gy : Nat → Int32) (gw : Nat → Int32) (gt : Nat → Int32) (fx : Nat → Int32) (fy : Nat → Int32) (fw : Nat → Int32) (bx : Nat → Int32) (by_ : Nat → Int32) (bw : Nat → Int32) (v : Int32) (hR : mOK r g) (hI : ∀ k, k < 116 → mRef k = false → g k = mI k) (hm1 : flo (stC 0) (2 * 4) gx gy gw) (hm2 : ∀ d, d < 2 * 4 → gt d = 0) (hm3 : ∀ d, d < 2 * 4 → fx d = gx d ∧ fy d = gy d ∧ fw d = gw d) (hm4 : ∀ d, d < 2 * 4 → bx d = gx d ∧ by_ d = gy d ∧ bw d = gw d) : cM l E yX12_byteAt cX12_byteAt 2 (some .int) rm_z28_X12_byteAt [.ref h0, .int (nI 0)] [(h0, ob 12 (mfs (updG (updG (updG (updG (updG (updG (updG (updG g 7 (.int 0)) 1 (.int (nI 0))) 2 (.int (nI 0))) 8 (.int (nI 0))) 35 (.int (nI 0))) 36 (.int (nI 0))) 34 (.int (nI 0))) 4 (.int (nI 0))))), ((r 0), aB E 4096 (fun _ => 0))] (qI E (fun (r : Int32) (_u : Unit) => r = (-1)) (fun _ => [(h0, ob 12 (mfs (updG (updG (updG (updG (updG (updG (updG (updG g 7 (.int 0)) 1 (.int (nI 0))) 2 (.int (nI 0))) 8 (.int (nI 0))) 35 (.int (nI 0))) 36 (.int (nI 0))) 34 (.int (nI 0))) 4 (.int (nI 0))))), ((r 0), aB E 4096 (fun _ => 0))])) := by
  refine cM_of (by decide) (Nat.le_of_ble_eq_true rfl) ?_
  intro p e s m below meth c ls A F hA hS hP hD hK hZ hl
  obtain ⟨hx, hb, hr, hml, hown, hts, hlk, hin⟩ := id F
  have hown : s.vm.findClass RX12 = some m.cls := hown
  have hl : lv_has ls 2 [(0, .ref h0), (1, .int (nI 0))] := hl
  refine lv_iload_n hx hb dX12_byteAt_0 rfl (lv_at hl 1 rfl) ?_
  refine lv_aload_n hx hb dX12_byteAt_1 rfl (lv_at hl 0 rfl) ?_
  refine va_get (D := E.1) (ci := 12) (v := .int 0) (C := RX12) (T := TX12) (N := 116) hx hb hts iX12 hown hK hP 0 rfl rfl 7 (by decide) (hts _ wdF_RX12_261) (fun _ h9 => h9) ((mfs_get _ 7 (by decide)).trans (congrArg some (show (updG (updG (updG (updG (updG (updG (updG (updG g 7 (.int 0)) 1 (.int (nI 0))) 2 (.int (nI 0))) 8 (.int (nI 0))) 35 (.int (nI 0))) 36 (.int (nI 0))) 34 (.int (nI 0))) 4 (.int (nI 0))) 7 = .int 0 from rfl))) dX12_byteAt_2 ?_
  refine lv_icmp_ge (tgt := 21) hx hb dX12_byteAt_5 (by decide) (fun c_283 => ?_) (fun c_283 => absurd (by decide) c_283)
  refine lv_iconst (v := (-1)) hx hb dX12_byteAt_21 (by decide) ?_
  exact cI_ret F hP hD hS hK () rfl [0, 1] rfl rfl dX12_byteAt_22 (by decide) (by decide)
abbrev rm_z24_X12_next : Room := { frames := 1, cells := 0, slots := 0, locals := 21 }
set_option maxHeartbeats 4000000 in
set_option maxRecDepth 100000 in
theorem z24_X12_next (l : Launch) (E : cE) (h0 : Nat) (r : Nat → Nat) (g : Nat → Value) (gx : Nat → Int32) (gy : Nat → Int32) (gw : Nat → Int32) (gt : Nat → Int32) (fx : Nat → Int32) (fy : Nat → Int32) (fw : Nat → Int32) (bx : Nat → Int32) (by_ : Nat → Int32) (bw : Nat → Int32) (v : Int32) (hR : mOK r g) (hI : ∀ k, k < 116 → mRef k = false → g k = mI k) (hm1 : flo (stC 0) (2 * 4) gx gy gw) (hm2 : ∀ d, d < 2 * 4 → gt d = 0) (hm3 : ∀ d, d < 2 * 4 → fx d = gx d ∧ fy d = gy d ∧ fw d = gw d) (hm4 : ∀ d, d < 2 * 4 → bx d = gx d ∧ by_ d = gy d ∧ bw d = gw d) : cM l E yX12_next cX12_next 3 none rm_z24_X12_next [.ref h0] [(h0, ob 12 (mfs (updG (updG (updG (updG (updG (updG (updG g 7 (.int 0)) 1 (.int (nI 0))) 2 (.int (nI 0))) 8 (.int (nI 0))) 35 (.int (nI 0))) 36 (.int (nI 0))) 34 (.int (nI 0))))), ((r 0), aB E 4096 (fun _ => 0))] (qV E (fun (_u : Unit) => True) (fun _ => [(h0, ob 12 (mfs (updG (updG (updG (updG (updG (updG (updG (updG (updG g 7 (.int 0)) 1 (.int (nI 0))) 2 (.int (nI 0))) 8 (.int (nI 0))) 35 (.int (nI 0))) 36 (.int (nI 0))) 34 (.int (nI 0))) 4 (.int (nI 0))) 3 (.int (nI 0))))), ((r 0), aB E 4096 (fun _ => 0))])) := by
  refine cM_of (by decide) (Nat.le_of_ble_eq_true rfl) ?_
  intro p e s m below meth c ls A F hA hS hP hD hK hZ hl
  obtain ⟨hx, hb, hr, hml, hown, hts, hlk, hin⟩ := id F
  have hown : s.vm.findClass RX12 = some m.cls := hown
  have hl : lv_has ls 3 [(0, .ref h0)] := hl
  refine lv_aload_n hx hb dX12_next_0 rfl (lv_at hl 0 rfl) ?_
  refine lv_aload_n hx hb dX12_next_1 rfl (lv_at hl 0 rfl) ?_
  refine va_get (D := E.1) (ci := 12) (v := .int (nI 0)) (C := RX12) (T := TX12) (N := 116) hx hb hts iX12 hown hK hP 0 rfl rfl 2 (by decide) (hts _ wdF_RX12_264) (fun _ h9 => h9) ((mfs_get _ 2 (by decide)).trans (congrArg some (show (updG (updG (updG (updG (updG (updG (updG g 7 (.int 0)) 1 (.int (nI 0))) 2 (.int (nI 0))) 8 (.int (nI 0))) 35 (.int (nI 0))) 36 (.int (nI 0))) 34 (.int (nI 0))) 2 = .int (nI 0) from rfl))) dX12_next_2 ?_
  refine cI_go (wr := []) (cM_runV (As := [.int (nI 0)]) (rest := []) F (z25_X12_byteAt l E h0 r g gx gy gw gt fx fy fw bx by_ bw v hR hI hm1 hm2 hm3 hm4) yy_X12_byteAt yi_X12_byteAt wdM_RX12_267 hP hD hS hK hZ hA [0, 1] rfl rfl 0 12 rfl rfl rfl hl.1 rfl (Nat.le_of_ble_eq_true rfl) dX12_next_5 ⟨by decide, by decide⟩ ⟨by decide, by decide⟩) hP hD hS hA [0, 1] [] rfl rfl rfl (by decide) (fun r_269 u_268 H locs hw_267 hP hD hS => ?_)
  try dsimp only at hw_267
  have hP : va_P E.1 vwCl [(h0, ob 12 (mfs (updG (updG (updG (updG (updG (updG (updG g 7 (.int 0)) 1 (.int (nI 0))) 2 (.int (nI 0))) 8 (.int (nI 0))) 35 (.int (nI 0))) 36 (.int (nI 0))) 34 (.int (nI 0))))), ((r 0), aB E 4096 (fun _ => 0))] H := hP
  have hD : va_D A [(h0, ob 12 (mfs (updG (updG (updG (updG (updG (updG (updG g 7 (.int 0)) 1 (.int (nI 0))) 2 (.int (nI 0))) 8 (.int (nI 0))) 35 (.int (nI 0))) 36 (.int (nI 0))) 34 (.int (nI 0))))), ((r 0), aB E 4096 (fun _ => 0))] := hD
  subst hw_267
  refine cI_go (wr := []) (cM_runS (As := [.int (-1)]) (rest := []) F (z26_X12_isBlank l E h0 r g gx gy gw gt fx fy fw bx by_ bw v hR hI hm1 hm2 hm3 hm4) yy_X12_isBlank wdT_X12_isBlank wdM_RX12_271 hP hD hS hK hZ hA [0, 1] rfl rfl rfl hl.1 rfl (Nat.le_of_ble_eq_true rfl) dX12_next_8 ⟨by decide, by decide⟩ ⟨by decide, by decide⟩) hP hD hS hA [0, 1] [] rfl rfl rfl (by decide) (fun r_276 u_275 H locs hw_274 hP hD hS => ?_)
  try dsimp only at hw_274
  have hP : va_P E.1 vwCl [(h0, ob 12 (mfs (updG (updG (updG (updG (updG (updG (updG g 7 (.int 0)) 1 (.int (nI 0))) 2 (.int (nI 0))) 8 (.int (nI 0))) 35 (.int (nI 0))) 36 (.int (nI 0))) 34 (.int (nI 0))))), ((r 0), aB E 4096 (fun _ => 0))] H := hP
  have hD : va_D A [(h0, ob 12 (mfs (updG (updG (updG (updG (updG (updG (updG g 7 (.int 0)) 1 (.int (nI 0))) 2 (.int (nI 0))) 8 (.int (nI 0))) 35 (.int (nI 0))) 36 (.int (nI 0))) 34 (.int (nI 0))))), ((r 0), aB E 4096 (fun _ => 0))] := hD
  subst hw_274
  refine lv_if_ne (tgt := 27) hx hb dX12_next_11 (by decide) (fun c_277 => absurd (by decide) c_277) (fun c_277 => ?_)
  refine lv_aload_n hx hb dX12_next_14 rfl (lv_at hl 0 rfl) ?_
  refine lv_aload_n hx hb dX12_next_15 rfl (lv_at hl 0 rfl) ?_
  refine va_get (D := E.1) (ci := 12) (v := .int (nI 0)) (C := RX12) (T := TX12) (N := 116) hx hb hts iX12 hown hK hP 0 rfl rfl 2 (by decide) (hts _ wdF_RX12_264) (fun _ h9 => h9) ((mfs_get _ 2 (by decide)).trans (congrArg some (show (updG (updG (updG (updG (updG (updG (updG g 7 (.int 0)) 1 (.int (nI 0))) 2 (.int (nI 0))) 8 (.int (nI 0))) 35 (.int (nI 0))) 36 (.int (nI 0))) 34 (.int (nI 0))) 2 = .int (nI 0) from rfl))) dX12_next_16 ?_
  refine cI_go (wr := []) (cM_runV (As := [.int (nI 0)]) (rest := []) F (z27_X12_byteAt l E h0 r g gx gy gw gt fx fy fw bx by_ bw v hR hI hm1 hm2 hm3 hm4) yy_X12_byteAt yi_X12_byteAt wdM_RX12_267 hP hD hS hK hZ hA [0, 1] rfl rfl 0 12 rfl rfl rfl hl.1 rfl (Nat.le_of_ble_eq_true rfl) dX12_next_19 ⟨by decide, by decide⟩ ⟨by decide, by decide⟩) hP hD hS hA [0, 1] [] rfl rfl rfl (by decide) (fun r_281 u_280 H locs hw_279 hP hD hS => ?_)
  try dsimp only at hw_279
  have hP : va_P E.1 vwCl [(h0, ob 12 (mfs (updG (updG (updG (updG (updG (updG (updG g 7 (.int 0)) 1 (.int (nI 0))) 2 (.int (nI 0))) 8 (.int (nI 0))) 35 (.int (nI 0))) 36 (.int (nI 0))) 34 (.int (nI 0))))), ((r 0), aB E 4096 (fun _ => 0))] H := hP
  have hD : va_D A [(h0, ob 12 (mfs (updG (updG (updG (updG (updG (updG (updG g 7 (.int 0)) 1 (.int (nI 0))) 2 (.int (nI 0))) 8 (.int (nI 0))) 35 (.int (nI 0))) 36 (.int (nI 0))) 34 (.int (nI 0))))), ((r 0), aB E 4096 (fun _ => 0))] := hD
  subst hw_279
  refine lv_bipush (v := nI 35) hx hb dX12_next_22 (by decide) ?_
  refine lv_icmp_ne (tgt := 91) hx hb dX12_next_24 (by decide) (fun c_282 => ?_) (fun c_282 => absurd c_282 (by decide))
  refine lv_aload_n hx hb dX12_next_91 rfl (lv_at hl 0 rfl) ?_
  refine lv_aload_n hx hb dX12_next_92 rfl (lv_at hl 0 rfl) ?_
  refine va_get (D := E.1) (ci := 12) (v := .int (nI 0)) (C := RX12) (T := TX12) (N := 116) hx hb hts iX12 hown hK hP 0 rfl rfl 2 (by decide) (hts _ wdF_RX12_264) (fun _ h9 => h9) ((mfs_get _ 2 (by decide)).trans (congrArg some (show (updG (updG (updG (updG (updG (updG (updG g 7 (.int 0)) 1 (.int (nI 0))) 2 (.int (nI 0))) 8 (.int (nI 0))) 35 (.int (nI 0))) 36 (.int (nI 0))) 34 (.int (nI 0))) 2 = .int (nI 0) from rfl))) dX12_next_93 ?_
  refine va_put (D := E.1) (ci := 12) (v := .int (nI 0)) (ty := .int) (C := RX12) (T := TX12) (N := 116) hx hb hts iX12 tyX12 tyX12_ok nmX12 hown hK hP hD hS 0 rfl rfl 4 (by decide) (hts _ wdF_RX12_275) (fun _ h9 => h9) rfl (by decide +kernel) rfl rfl (by rw [mfs_len]; decide) dX12_next_96 (fun H locs hP hD hS => ?_)
  have hP : va_P E.1 vwCl [(h0, ob 12 ((mfs (updG (updG (updG (updG (updG (updG (updG g 7 (.int 0)) 1 (.int (nI 0))) 2 (.int (nI 0))) 8 (.int (nI 0))) 35 (.int (nI 0))) 36 (.int (nI 0))) 34 (.int (nI 0)))).set 4 (.int (nI 0)))), ((r 0), aB E 4096 (fun _ => 0))] H := hP
  have hD : va_D A [(h0, ob 12 ((mfs (updG (updG (updG (updG (updG (updG (updG g 7 (.int 0)) 1 (.int (nI 0))) 2 (.int (nI 0))) 8 (.int (nI 0))) 35 (.int (nI 0))) 36 (.int (nI 0))) 34 (.int (nI 0)))).set 4 (.int (nI 0)))), ((r 0), aB E 4096 (fun _ => 0))] := hD
  rw [mfs_set _ 4 _ (by decide)] at hP hD
  refine lv_aload_n hx hb dX12_next_99 rfl (lv_at hl 0 rfl) ?_
  refine lv_aload_n hx hb dX12_next_100 rfl (lv_at hl 0 rfl) ?_
  refine va_get (D := E.1) (ci := 12) (v := .int (nI 0)) (C := RX12) (T := TX12) (N := 116) hx hb hts iX12 hown hK hP 0 rfl rfl 2 (by decide) (hts _ wdF_RX12_264) (fun _ h9 => h9) ((mfs_get _ 2 (by decide)).trans (congrArg some (show (updG (updG (updG (updG (updG (updG (updG (updG g 7 (.int 0)) 1 (.int (nI 0))) 2 (.int (nI 0))) 8 (.int (nI 0))) 35 (.int (nI 0))) 36 (.int (nI 0))) 34 (.int (nI 0))) 4 (.int (nI 0))) 2 = .int (nI 0) from rfl))) dX12_next_101 ?_
  refine cI_go (wr := []) (cM_runV (As := [.int (nI 0)]) (rest := []) F (z28_X12_byteAt l E h0 r g gx gy gw gt fx fy fw bx by_ bw v hR hI hm1 hm2 hm3 hm4) yy_X12_byteAt yi_X12_byteAt wdM_RX12_267 hP hD hS hK hZ hA [0, 1] rfl rfl 0 12 rfl rfl rfl hl.1 rfl (Nat.le_of_ble_eq_true rfl) dX12_next_104 ⟨by decide, by decide⟩ ⟨by decide, by decide⟩) hP hD hS hA [0, 1] [] rfl rfl rfl (by decide) (fun r_286 u_285 H locs hw_284 hP hD hS => ?_)
  try dsimp only at hw_284
  have hP : va_P E.1 vwCl [(h0, ob 12 (mfs (updG (updG (updG (updG (updG (updG (updG (updG g 7 (.int 0)) 1 (.int (nI 0))) 2 (.int (nI 0))) 8 (.int (nI 0))) 35 (.int (nI 0))) 36 (.int (nI 0))) 34 (.int (nI 0))) 4 (.int (nI 0))))), ((r 0), aB E 4096 (fun _ => 0))] H := hP
  have hD : va_D A [(h0, ob 12 (mfs (updG (updG (updG (updG (updG (updG (updG (updG g 7 (.int 0)) 1 (.int (nI 0))) 2 (.int (nI 0))) 8 (.int (nI 0))) 35 (.int (nI 0))) 36 (.int (nI 0))) 34 (.int (nI 0))) 4 (.int (nI 0))))), ((r 0), aB E 4096 (fun _ => 0))] := hD
  subst hw_284
  refine lv_istore_n (lv' := [(1, .int (-1)), (0, .ref h0)]) hx hb dX12_next_107 rfl hl (by decide) rfl (fun ls hl => ?_)
  refine lv_iload_n hx hb dX12_next_108 rfl (lv_at hl 0 rfl) ?_
  refine lv_iconst (v := (-1)) hx hb dX12_next_109 (by decide) ?_
  refine lv_icmp_ne (tgt := 121) hx hb dX12_next_110 (by decide) (fun c_287 => absurd (by decide) c_287) (fun c_287 => ?_)
  refine lv_aload_n hx hb dX12_next_113 rfl (lv_at hl 1 rfl) ?_
  refine lv_iconst (v := nI 0) hx hb dX12_next_114 (by decide) ?_
  refine va_put (D := E.1) (ci := 12) (v := .int (nI 0)) (ty := .int) (C := RX12) (T := TX12) (N := 116) hx hb hts iX12 tyX12 tyX12_ok nmX12 hown hK hP hD hS 0 rfl rfl 3 (by decide) (hts _ wdF_RX12_278) (fun _ h9 => h9) rfl (by decide +kernel) rfl rfl (by rw [mfs_len]; decide) dX12_next_115 (fun H locs hP hD hS => ?_)
  have hP : va_P E.1 vwCl [(h0, ob 12 ((mfs (updG (updG (updG (updG (updG (updG (updG (updG g 7 (.int 0)) 1 (.int (nI 0))) 2 (.int (nI 0))) 8 (.int (nI 0))) 35 (.int (nI 0))) 36 (.int (nI 0))) 34 (.int (nI 0))) 4 (.int (nI 0)))).set 3 (.int (nI 0)))), ((r 0), aB E 4096 (fun _ => 0))] H := hP
  have hD : va_D A [(h0, ob 12 ((mfs (updG (updG (updG (updG (updG (updG (updG (updG g 7 (.int 0)) 1 (.int (nI 0))) 2 (.int (nI 0))) 8 (.int (nI 0))) 35 (.int (nI 0))) 36 (.int (nI 0))) 34 (.int (nI 0))) 4 (.int (nI 0)))).set 3 (.int (nI 0)))), ((r 0), aB E 4096 (fun _ => 0))] := hD
  rw [mfs_set _ 3 _ (by decide)] at hP hD
  refine lv_goto (tgt := 480) hx hb dX12_next_118 (by decide) ?_
  exact cV_ret F hP hD hS hK () trivial [0, 1] rfl rfl dX12_next_480 (by decide) (by decide)
abbrev rm_z23_X12_opensText : Room := { frames := 2, cells := 0, slots := 0, locals := 43 }
set_option maxHeartbeats 4000000 in
set_option maxRecDepth 100000 in
theorem z23_X12_opensText (l : Launch) (E : cE) (h0 : Nat) (r : Nat → Nat) (g : Nat → Value) (gx : Nat → Int32) (gy : Nat → Int32) (gw : Nat → Int32) (gt : Nat → Int32) (fx : Nat → Int32) (fy : Nat → Int32) (fw : Nat → Int32) (bx : Nat → Int32) (by_ : Nat → Int32) (bw : Nat → Int32) (v : Int32) (hR : mOK r g) (hI : ∀ k, k < 116 → mRef k = false → g k = mI k) (hm1 : flo (stC 0) (2 * 4) gx gy gw) (hm2 : ∀ d, d < 2 * 4 → gt d = 0) (hm3 : ∀ d, d < 2 * 4 → fx d = gx d ∧ fy d = gy d ∧ fw d = gw d) (hm4 : ∀ d, d < 2 * 4 → bx d = gx d ∧ by_ d = gy d ∧ bw d = gw d) : cM l E yX12_opensText cX12_opensText 1 none rm_z23_X12_opensText [.ref h0] [(h0, ob 12 (mfs g)), ((r 0), aB E 4096 (fun _ => 0))] (qV E (fun (_u : Unit) => True) (fun _ => [(h0, ob 12 (mfs (updG (updG (updG (updG (updG (updG (updG (updG (updG g 7 (.int 0)) 1 (.int (nI 0))) 2 (.int (nI 0))) 8 (.int (nI 0))) 35 (.int (nI 0))) 36 (.int (nI 0))) 34 (.int (nI 0))) 4 (.int (nI 0))) 3 (.int (nI 0))))), ((r 0), aB E 4096 (fun _ => 0))])) := by
  refine cM_of (by decide) (Nat.le_of_ble_eq_true rfl) ?_
  intro p e s m below meth c ls A F hA hS hP hD hK hZ hl
  obtain ⟨hx, hb, hr, hml, hown, hts, hlk, hin⟩ := id F
  have hown : s.vm.findClass RX12 = some m.cls := hown
  have hl : lv_has ls 1 [(0, .ref h0)] := hl
  refine lv_aload_n hx hb dX12_opensText_0 rfl (lv_at hl 0 rfl) ?_
  refine lv_aload_n hx hb dX12_opensText_1 rfl (lv_at hl 0 rfl) ?_
  refine va_get (D := E.1) (ci := 12) (v := .int 0) (C := RX12) (T := TX12) (N := 116) hx hb hts iX12 hown hK hP 0 rfl rfl 1 (by decide) (hts _ wdF_RX12_258) (fun _ h9 => h9) ((mfs_get _ 1 (by decide)).trans (congrArg some (show (g) 1 = .int 0 from (hI 1 (by decide) rfl)))) dX12_opensText_2 ?_
  refine va_put (D := E.1) (ci := 12) (v := .int 0) (ty := .int) (C := RX12) (T := TX12) (N := 116) hx hb hts iX12 tyX12 tyX12_ok nmX12 hown hK hP hD hS 0 rfl rfl 7 (by decide) (hts _ wdF_RX12_261) (fun _ h9 => h9) rfl (by decide +kernel) rfl rfl (by rw [mfs_len]; decide) dX12_opensText_5 (fun H locs hP hD hS => ?_)
  have hP : va_P E.1 vwCl [(h0, ob 12 ((mfs g).set 7 (.int 0))), ((r 0), aB E 4096 (fun _ => 0))] H := hP
  have hD : va_D A [(h0, ob 12 ((mfs g).set 7 (.int 0))), ((r 0), aB E 4096 (fun _ => 0))] := hD
  rw [mfs_set _ 7 _ (by decide)] at hP hD
  refine lv_aload_n hx hb dX12_opensText_8 rfl (lv_at hl 0 rfl) ?_
  refine lv_iconst (v := nI 0) hx hb dX12_opensText_9 (by decide) ?_
  refine va_put (D := E.1) (ci := 12) (v := .int (nI 0)) (ty := .int) (C := RX12) (T := TX12) (N := 116) hx hb hts iX12 tyX12 tyX12_ok nmX12 hown hK hP hD hS 0 rfl rfl 1 (by decide) (hts _ wdF_RX12_258) (fun _ h9 => h9) rfl (by decide +kernel) rfl rfl (by rw [mfs_len]; decide) dX12_opensText_10 (fun H locs hP hD hS => ?_)
  have hP : va_P E.1 vwCl [(h0, ob 12 ((mfs (updG g 7 (.int 0))).set 1 (.int (nI 0)))), ((r 0), aB E 4096 (fun _ => 0))] H := hP
  have hD : va_D A [(h0, ob 12 ((mfs (updG g 7 (.int 0))).set 1 (.int (nI 0)))), ((r 0), aB E 4096 (fun _ => 0))] := hD
  rw [mfs_set _ 1 _ (by decide)] at hP hD
  refine lv_aload_n hx hb dX12_opensText_13 rfl (lv_at hl 0 rfl) ?_
  refine lv_iconst (v := nI 0) hx hb dX12_opensText_14 (by decide) ?_
  refine va_put (D := E.1) (ci := 12) (v := .int (nI 0)) (ty := .int) (C := RX12) (T := TX12) (N := 116) hx hb hts iX12 tyX12 tyX12_ok nmX12 hown hK hP hD hS 0 rfl rfl 2 (by decide) (hts _ wdF_RX12_264) (fun _ h9 => h9) rfl (by decide +kernel) rfl rfl (by rw [mfs_len]; decide) dX12_opensText_15 (fun H locs hP hD hS => ?_)
  have hP : va_P E.1 vwCl [(h0, ob 12 ((mfs (updG (updG g 7 (.int 0)) 1 (.int (nI 0)))).set 2 (.int (nI 0)))), ((r 0), aB E 4096 (fun _ => 0))] H := hP
  have hD : va_D A [(h0, ob 12 ((mfs (updG (updG g 7 (.int 0)) 1 (.int (nI 0)))).set 2 (.int (nI 0)))), ((r 0), aB E 4096 (fun _ => 0))] := hD
  rw [mfs_set _ 2 _ (by decide)] at hP hD
  refine lv_aload_n hx hb dX12_opensText_18 rfl (lv_at hl 0 rfl) ?_
  refine lv_iconst (v := nI 0) hx hb dX12_opensText_19 (by decide) ?_
  refine va_put (D := E.1) (ci := 12) (v := .int (nI 0)) (ty := .int) (C := RX12) (T := TX12) (N := 116) hx hb hts iX12 tyX12 tyX12_ok nmX12 hown hK hP hD hS 0 rfl rfl 8 (by decide) (hts _ wdF_RX12_308) (fun _ h9 => h9) rfl (by decide +kernel) rfl rfl (by rw [mfs_len]; decide) dX12_opensText_20 (fun H locs hP hD hS => ?_)
  have hP : va_P E.1 vwCl [(h0, ob 12 ((mfs (updG (updG (updG g 7 (.int 0)) 1 (.int (nI 0))) 2 (.int (nI 0)))).set 8 (.int (nI 0)))), ((r 0), aB E 4096 (fun _ => 0))] H := hP
  have hD : va_D A [(h0, ob 12 ((mfs (updG (updG (updG g 7 (.int 0)) 1 (.int (nI 0))) 2 (.int (nI 0)))).set 8 (.int (nI 0)))), ((r 0), aB E 4096 (fun _ => 0))] := hD
  rw [mfs_set _ 8 _ (by decide)] at hP hD
  refine lv_aload_n hx hb dX12_opensText_23 rfl (lv_at hl 0 rfl) ?_
  refine lv_iconst (v := nI 0) hx hb dX12_opensText_24 (by decide) ?_
  refine va_put (D := E.1) (ci := 12) (v := .int (nI 0)) (ty := .int) (C := RX12) (T := TX12) (N := 116) hx hb hts iX12 tyX12 tyX12_ok nmX12 hown hK hP hD hS 0 rfl rfl 35 (by decide) (hts _ wdF_RX12_338) (fun _ h9 => h9) rfl (by decide +kernel) rfl rfl (by rw [mfs_len]; decide) dX12_opensText_25 (fun H locs hP hD hS => ?_)
  have hP : va_P E.1 vwCl [(h0, ob 12 ((mfs (updG (updG (updG (updG g 7 (.int 0)) 1 (.int (nI 0))) 2 (.int (nI 0))) 8 (.int (nI 0)))).set 35 (.int (nI 0)))), ((r 0), aB E 4096 (fun _ => 0))] H := hP
  have hD : va_D A [(h0, ob 12 ((mfs (updG (updG (updG (updG g 7 (.int 0)) 1 (.int (nI 0))) 2 (.int (nI 0))) 8 (.int (nI 0)))).set 35 (.int (nI 0)))), ((r 0), aB E 4096 (fun _ => 0))] := hD
  rw [mfs_set _ 35 _ (by decide)] at hP hD
  refine lv_aload_n hx hb dX12_opensText_28 rfl (lv_at hl 0 rfl) ?_
  refine lv_iconst (v := nI 0) hx hb dX12_opensText_29 (by decide) ?_
  refine va_put (D := E.1) (ci := 12) (v := .int (nI 0)) (ty := .int) (C := RX12) (T := TX12) (N := 116) hx hb hts iX12 tyX12 tyX12_ok nmX12 hown hK hP hD hS 0 rfl rfl 36 (by decide) (hts _ wdF_RX12_311) (fun _ h9 => h9) rfl (by decide +kernel) rfl rfl (by rw [mfs_len]; decide) dX12_opensText_30 (fun H locs hP hD hS => ?_)
  have hP : va_P E.1 vwCl [(h0, ob 12 ((mfs (updG (updG (updG (updG (updG g 7 (.int 0)) 1 (.int (nI 0))) 2 (.int (nI 0))) 8 (.int (nI 0))) 35 (.int (nI 0)))).set 36 (.int (nI 0)))), ((r 0), aB E 4096 (fun _ => 0))] H := hP
  have hD : va_D A [(h0, ob 12 ((mfs (updG (updG (updG (updG (updG g 7 (.int 0)) 1 (.int (nI 0))) 2 (.int (nI 0))) 8 (.int (nI 0))) 35 (.int (nI 0)))).set 36 (.int (nI 0)))), ((r 0), aB E 4096 (fun _ => 0))] := hD
  rw [mfs_set _ 36 _ (by decide)] at hP hD
  refine lv_aload_n hx hb dX12_opensText_33 rfl (lv_at hl 0 rfl) ?_
  refine lv_iconst (v := nI 0) hx hb dX12_opensText_34 (by decide) ?_
  refine va_put (D := E.1) (ci := 12) (v := .int (nI 0)) (ty := .int) (C := RX12) (T := TX12) (N := 116) hx hb hts iX12 tyX12 tyX12_ok nmX12 hown hK hP hD hS 0 rfl rfl 34 (by decide) (hts _ wdF_RX12_320) (fun _ h9 => h9) rfl (by decide +kernel) rfl rfl (by rw [mfs_len]; decide) dX12_opensText_35 (fun H locs hP hD hS => ?_)
  have hP : va_P E.1 vwCl [(h0, ob 12 ((mfs (updG (updG (updG (updG (updG (updG g 7 (.int 0)) 1 (.int (nI 0))) 2 (.int (nI 0))) 8 (.int (nI 0))) 35 (.int (nI 0))) 36 (.int (nI 0)))).set 34 (.int (nI 0)))), ((r 0), aB E 4096 (fun _ => 0))] H := hP
  have hD : va_D A [(h0, ob 12 ((mfs (updG (updG (updG (updG (updG (updG g 7 (.int 0)) 1 (.int (nI 0))) 2 (.int (nI 0))) 8 (.int (nI 0))) 35 (.int (nI 0))) 36 (.int (nI 0)))).set 34 (.int (nI 0)))), ((r 0), aB E 4096 (fun _ => 0))] := hD
  rw [mfs_set _ 34 _ (by decide)] at hP hD
  refine lv_aload_n hx hb dX12_opensText_38 rfl (lv_at hl 0 rfl) ?_
  refine cV_go (wr := []) (cM_runV (As := []) (rest := []) F (z24_X12_next l E h0 r g gx gy gw gt fx fy fw bx by_ bw v hR hI hm1 hm2 hm3 hm4) yy_X12_next yi_X12_next wdM_RX12_323 hP hD hS hK hZ hA [0, 1] rfl rfl 0 12 rfl rfl rfl hl.1 rfl (Nat.le_of_ble_eq_true rfl) dX12_opensText_39 ⟨by decide, by decide⟩ ⟨by decide, by decide⟩) hP hD hS hA [0, 1] [] rfl rfl rfl (by decide) (fun u_289 H locs hw_288 hP hD hS => ?_)
  try dsimp only at hw_288
  have hP : va_P E.1 vwCl [(h0, ob 12 (mfs (updG (updG (updG (updG (updG (updG (updG (updG (updG g 7 (.int 0)) 1 (.int (nI 0))) 2 (.int (nI 0))) 8 (.int (nI 0))) 35 (.int (nI 0))) 36 (.int (nI 0))) 34 (.int (nI 0))) 4 (.int (nI 0))) 3 (.int (nI 0))))), ((r 0), aB E 4096 (fun _ => 0))] H := hP
  have hD : va_D A [(h0, ob 12 (mfs (updG (updG (updG (updG (updG (updG (updG (updG (updG g 7 (.int 0)) 1 (.int (nI 0))) 2 (.int (nI 0))) 8 (.int (nI 0))) 35 (.int (nI 0))) 36 (.int (nI 0))) 34 (.int (nI 0))) 4 (.int (nI 0))) 3 (.int (nI 0))))), ((r 0), aB E 4096 (fun _ => 0))] := hD
  exact cV_ret F hP hD hS hK () trivial [0, 1] rfl rfl dX12_opensText_42 (by decide) (by decide)
abbrev rm_z30_X12_byteAt : Room := { frames := 0, cells := 0, slots := 0, locals := 0 }
set_option maxHeartbeats 4000000 in
set_option maxRecDepth 100000 in
theorem z30_X12_byteAt (l : Launch) (E : cE) (h0 : Nat) (r : Nat → Nat) (g : Nat → Value) (gx : Nat → Int32) (gy : Nat → Int32) (gw : Nat → Int32) (gt : Nat → Int32) (fx : Nat → Int32) (fy : Nat → Int32) (fw : Nat → Int32) (bx : Nat → Int32) (by_ : Nat → Int32) (bw : Nat → Int32) (v : Int32) (hR : mOK r g) (hI : ∀ k, k < 116 → mRef k = false → g k = mI k) (hm1 : flo (stC 0) (2 * 4) gx gy gw) (hm2 : ∀ d, d < 2 * 4 → gt d = 0) (hm3 : ∀ d, d < 2 * 4 → fx d = gx d ∧ fy d = gy d ∧ fw d = gw d) (hm4 : ∀ d, d < 2 * 4 → bx d = gx d ∧ by_ d = gy d ∧ bw d = gw d) : cM l E yX12_byteAt cX12_byteAt 2 (some .int) rm_z30_X12_byteAt [.ref h0, .int (nI 0)] [(h0, ob 12 (mfs (updG (updG (updG (updG (updG (updG (updG (updG (updG g 7 (.int 0)) 1 (.int (nI 0))) 2 (.int (nI 0))) 8 (.int (nI 0))) 35 (.int (nI 0))) 36 (.int (nI 0))) 34 (.int (nI 0))) 4 (.int (nI 0))) 3 (.int (nI 0))))), ((r 0), aB E 4096 (fun _ => 0))] (qI E (fun (r : Int32) (_u : Unit) => r = (-1)) (fun _ => [(h0, ob 12 (mfs (updG (updG (updG (updG (updG (updG (updG (updG (updG g 7 (.int 0)) 1 (.int (nI 0))) 2 (.int (nI 0))) 8 (.int (nI 0))) 35 (.int (nI 0))) 36 (.int (nI 0))) 34 (.int (nI 0))) 4 (.int (nI 0))) 3 (.int (nI 0))))), ((r 0), aB E 4096 (fun _ => 0))])) := by
  refine cM_of (by decide) (Nat.le_of_ble_eq_true rfl) ?_
  intro p e s m below meth c ls A F hA hS hP hD hK hZ hl
  obtain ⟨hx, hb, hr, hml, hown, hts, hlk, hin⟩ := id F
  have hown : s.vm.findClass RX12 = some m.cls := hown
  have hl : lv_has ls 2 [(0, .ref h0), (1, .int (nI 0))] := hl
  refine lv_iload_n hx hb dX12_byteAt_0 rfl (lv_at hl 1 rfl) ?_
  refine lv_aload_n hx hb dX12_byteAt_1 rfl (lv_at hl 0 rfl) ?_
  refine va_get (D := E.1) (ci := 12) (v := .int 0) (C := RX12) (T := TX12) (N := 116) hx hb hts iX12 hown hK hP 0 rfl rfl 7 (by decide) (hts _ wdF_RX12_261) (fun _ h9 => h9) ((mfs_get _ 7 (by decide)).trans (congrArg some (show (updG (updG (updG (updG (updG (updG (updG (updG (updG g 7 (.int 0)) 1 (.int (nI 0))) 2 (.int (nI 0))) 8 (.int (nI 0))) 35 (.int (nI 0))) 36 (.int (nI 0))) 34 (.int (nI 0))) 4 (.int (nI 0))) 3 (.int (nI 0))) 7 = .int 0 from rfl))) dX12_byteAt_2 ?_
  refine lv_icmp_ge (tgt := 21) hx hb dX12_byteAt_5 (by decide) (fun c_296 => ?_) (fun c_296 => absurd (by decide) c_296)
  refine lv_iconst (v := (-1)) hx hb dX12_byteAt_21 (by decide) ?_
  exact cI_ret F hP hD hS hK () rfl [0, 1] rfl rfl dX12_byteAt_22 (by decide) (by decide)
abbrev rm_z31_X12_isBlank : Room := { frames := 0, cells := 0, slots := 0, locals := 0 }
set_option maxHeartbeats 4000000 in
set_option maxRecDepth 100000 in
theorem z31_X12_isBlank (l : Launch) (E : cE) (h0 : Nat) (r : Nat → Nat) (g : Nat → Value) (gx : Nat → Int32) (gy : Nat → Int32) (gw : Nat → Int32) (gt : Nat → Int32) (fx : Nat → Int32) (fy : Nat → Int32) (fw : Nat → Int32) (bx : Nat → Int32) (by_ : Nat → Int32) (bw : Nat → Int32) (v : Int32) (hR : mOK r g) (hI : ∀ k, k < 116 → mRef k = false → g k = mI k) (hm1 : flo (stC 0) (2 * 4) gx gy gw) (hm2 : ∀ d, d < 2 * 4 → gt d = 0) (hm3 : ∀ d, d < 2 * 4 → fx d = gx d ∧ fy d = gy d ∧ fw d = gw d) (hm4 : ∀ d, d < 2 * 4 → bx d = gx d ∧ by_ d = gy d ∧ bw d = gw d) : cM l E yX12_isBlank cX12_isBlank 1 (some .boolean) rm_z31_X12_isBlank [.int (-1)] [(h0, ob 12 (mfs (updG (updG (updG (updG (updG (updG (updG (updG (updG g 7 (.int 0)) 1 (.int (nI 0))) 2 (.int (nI 0))) 8 (.int (nI 0))) 35 (.int (nI 0))) 36 (.int (nI 0))) 34 (.int (nI 0))) 4 (.int (nI 0))) 3 (.int (nI 0))))), ((r 0), aB E 4096 (fun _ => 0))] (qI E (fun (r : Int32) (_u : Unit) => r = nI 0) (fun _ => [(h0, ob 12 (mfs (updG (updG (updG (updG (updG (updG (updG (updG (updG g 7 (.int 0)) 1 (.int (nI 0))) 2 (.int (nI 0))) 8 (.int (nI 0))) 35 (.int (nI 0))) 36 (.int (nI 0))) 34 (.int (nI 0))) 4 (.int (nI 0))) 3 (.int (nI 0))))), ((r 0), aB E 4096 (fun _ => 0))])) := by
  refine cM_of (by decide) (Nat.le_of_ble_eq_true rfl) ?_
  intro p e s m below meth c ls A F hA hS hP hD hK hZ hl
  obtain ⟨hx, hb, hr, hml, hown, hts, hlk, hin⟩ := id F
  have hown : s.vm.findClass RX12 = some m.cls := hown
  have hl : lv_has ls 1 [(0, .int (-1))] := hl
  refine lv_iload_n hx hb dX12_isBlank_0 rfl (lv_at hl 0 rfl) ?_
  refine lv_bipush (v := nI 9) hx hb dX12_isBlank_1 (by decide) ?_
  refine lv_icmp_eq (tgt := 24) hx hb dX12_isBlank_3 (by decide) (fun c_300 => absurd c_300 (by decide)) (fun c_300 => ?_)
  refine lv_iload_n hx hb dX12_isBlank_6 rfl (lv_at hl 0 rfl) ?_
  refine lv_bipush (v := nI 10) hx hb dX12_isBlank_7 (by decide) ?_
  refine lv_icmp_eq (tgt := 24) hx hb dX12_isBlank_9 (by decide) (fun c_301 => absurd c_301 (by decide)) (fun c_301 => ?_)
  refine lv_iload_n hx hb dX12_isBlank_12 rfl (lv_at hl 0 rfl) ?_
  refine lv_bipush (v := nI 13) hx hb dX12_isBlank_13 (by decide) ?_
  refine lv_icmp_eq (tgt := 24) hx hb dX12_isBlank_15 (by decide) (fun c_302 => absurd c_302 (by decide)) (fun c_302 => ?_)
  refine lv_iload_n hx hb dX12_isBlank_18 rfl (lv_at hl 0 rfl) ?_
  refine lv_bipush (v := nI 32) hx hb dX12_isBlank_19 (by decide) ?_
  refine lv_icmp_ne (tgt := 28) hx hb dX12_isBlank_21 (by decide) (fun c_303 => ?_) (fun c_303 => absurd c_303 (by decide))
  refine lv_iconst (v := nI 0) hx hb dX12_isBlank_28 (by decide) ?_
  exact cB_ret F hP hD hS hK (by decide) () rfl [0, 1] rfl rfl dX12_isBlank_29 (by decide) (by decide)
abbrev rm_z32_X12_byteAt : Room := { frames := 0, cells := 0, slots := 0, locals := 0 }
set_option maxHeartbeats 4000000 in
set_option maxRecDepth 100000 in
theorem z32_X12_byteAt (l : Launch) (E : cE) (h0 : Nat) (r : Nat → Nat) (g : Nat → Value) (gx : Nat → Int32) (gy : Nat → Int32) (gw : Nat → Int32) (gt : Nat → Int32) (fx : Nat → Int32) (fy : Nat → Int32) (fw : Nat → Int32) (bx : Nat → Int32) (by_ : Nat → Int32) (bw : Nat → Int32) (v : Int32) (hR : mOK r g) (hI : ∀ k, k < 116 → mRef k = false → g k = mI k) (hm1 : flo (stC 0) (2 * 4) gx gy gw) (hm2 : ∀ d, d < 2 * 4 → gt d = 0) (hm3 : ∀ d, d < 2 * 4 → fx d = gx d ∧ fy d = gy d ∧ fw d = gw d) (hm4 : ∀ d, d < 2 * 4 → bx d = gx d ∧ by_ d = gy d ∧ bw d = gw d) : cM l E yX12_byteAt cX12_byteAt 2 (some .int) rm_z32_X12_byteAt [.ref h0, .int (nI 0)] [(h0, ob 12 (mfs (updG (updG (updG (updG (updG (updG (updG (updG (updG g 7 (.int 0)) 1 (.int (nI 0))) 2 (.int (nI 0))) 8 (.int (nI 0))) 35 (.int (nI 0))) 36 (.int (nI 0))) 34 (.int (nI 0))) 4 (.int (nI 0))) 3 (.int (nI 0))))), ((r 0), aB E 4096 (fun _ => 0))] (qI E (fun (r : Int32) (_u : Unit) => r = (-1)) (fun _ => [(h0, ob 12 (mfs (updG (updG (updG (updG (updG (updG (updG (updG (updG g 7 (.int 0)) 1 (.int (nI 0))) 2 (.int (nI 0))) 8 (.int (nI 0))) 35 (.int (nI 0))) 36 (.int (nI 0))) 34 (.int (nI 0))) 4 (.int (nI 0))) 3 (.int (nI 0))))), ((r 0), aB E 4096 (fun _ => 0))])) := by
  refine cM_of (by decide) (Nat.le_of_ble_eq_true rfl) ?_
  intro p e s m below meth c ls A F hA hS hP hD hK hZ hl
  obtain ⟨hx, hb, hr, hml, hown, hts, hlk, hin⟩ := id F
  have hown : s.vm.findClass RX12 = some m.cls := hown
  have hl : lv_has ls 2 [(0, .ref h0), (1, .int (nI 0))] := hl
  refine lv_iload_n hx hb dX12_byteAt_0 rfl (lv_at hl 1 rfl) ?_
  refine lv_aload_n hx hb dX12_byteAt_1 rfl (lv_at hl 0 rfl) ?_
  refine va_get (D := E.1) (ci := 12) (v := .int 0) (C := RX12) (T := TX12) (N := 116) hx hb hts iX12 hown hK hP 0 rfl rfl 7 (by decide) (hts _ wdF_RX12_261) (fun _ h9 => h9) ((mfs_get _ 7 (by decide)).trans (congrArg some (show (updG (updG (updG (updG (updG (updG (updG (updG (updG g 7 (.int 0)) 1 (.int (nI 0))) 2 (.int (nI 0))) 8 (.int (nI 0))) 35 (.int (nI 0))) 36 (.int (nI 0))) 34 (.int (nI 0))) 4 (.int (nI 0))) 3 (.int (nI 0))) 7 = .int 0 from rfl))) dX12_byteAt_2 ?_
  refine lv_icmp_ge (tgt := 21) hx hb dX12_byteAt_5 (by decide) (fun c_308 => ?_) (fun c_308 => absurd (by decide) c_308)
  refine lv_iconst (v := (-1)) hx hb dX12_byteAt_21 (by decide) ?_
  exact cI_ret F hP hD hS hK () rfl [0, 1] rfl rfl dX12_byteAt_22 (by decide) (by decide)
abbrev rm_z33_X12_byteAt : Room := { frames := 0, cells := 0, slots := 0, locals := 0 }
set_option maxHeartbeats 4000000 in
set_option maxRecDepth 100000 in
theorem z33_X12_byteAt (l : Launch) (E : cE) (h0 : Nat) (r : Nat → Nat) (g : Nat → Value) (gx : Nat → Int32) (gy : Nat → Int32) (gw : Nat → Int32) (gt : Nat → Int32) (fx : Nat → Int32) (fy : Nat → Int32) (fw : Nat → Int32) (bx : Nat → Int32) (by_ : Nat → Int32) (bw : Nat → Int32) (v : Int32) (hR : mOK r g) (hI : ∀ k, k < 116 → mRef k = false → g k = mI k) (hm1 : flo (stC 0) (2 * 4) gx gy gw) (hm2 : ∀ d, d < 2 * 4 → gt d = 0) (hm3 : ∀ d, d < 2 * 4 → fx d = gx d ∧ fy d = gy d ∧ fw d = gw d) (hm4 : ∀ d, d < 2 * 4 → bx d = gx d ∧ by_ d = gy d ∧ bw d = gw d) : cM l E yX12_byteAt cX12_byteAt 2 (some .int) rm_z33_X12_byteAt [.ref h0, .int (nI 0)] [(h0, ob 12 (mfs (updG (updG (updG (updG (updG (updG (updG (updG (updG (updG g 7 (.int 0)) 1 (.int (nI 0))) 2 (.int (nI 0))) 8 (.int (nI 0))) 35 (.int (nI 0))) 36 (.int (nI 0))) 34 (.int (nI 0))) 4 (.int (nI 0))) 3 (.int (nI 0))) 4 (.int (nI 0))))), ((r 0), aB E 4096 (fun _ => 0))] (qI E (fun (r : Int32) (_u : Unit) => r = (-1)) (fun _ => [(h0, ob 12 (mfs (updG (updG (updG (updG (updG (updG (updG (updG (updG (updG g 7 (.int 0)) 1 (.int (nI 0))) 2 (.int (nI 0))) 8 (.int (nI 0))) 35 (.int (nI 0))) 36 (.int (nI 0))) 34 (.int (nI 0))) 4 (.int (nI 0))) 3 (.int (nI 0))) 4 (.int (nI 0))))), ((r 0), aB E 4096 (fun _ => 0))])) := by
  refine cM_of (by decide) (Nat.le_of_ble_eq_true rfl) ?_
  intro p e s m below meth c ls A F hA hS hP hD hK hZ hl
  obtain ⟨hx, hb, hr, hml, hown, hts, hlk, hin⟩ := id F
  have hown : s.vm.findClass RX12 = some m.cls := hown
  have hl : lv_has ls 2 [(0, .ref h0), (1, .int (nI 0))] := hl
  refine lv_iload_n hx hb dX12_byteAt_0 rfl (lv_at hl 1 rfl) ?_
  refine lv_aload_n hx hb dX12_byteAt_1 rfl (lv_at hl 0 rfl) ?_
  refine va_get (D := E.1) (ci := 12) (v := .int 0) (C := RX12) (T := TX12) (N := 116) hx hb hts iX12 hown hK hP 0 rfl rfl 7 (by decide) (hts _ wdF_RX12_261) (fun _ h9 => h9) ((mfs_get _ 7 (by decide)).trans (congrArg some (show (updG (updG (updG (updG (updG (updG (updG (updG (updG (updG g 7 (.int 0)) 1 (.int (nI 0))) 2 (.int (nI 0))) 8 (.int (nI 0))) 35 (.int (nI 0))) 36 (.int (nI 0))) 34 (.int (nI 0))) 4 (.int (nI 0))) 3 (.int (nI 0))) 4 (.int (nI 0))) 7 = .int 0 from rfl))) dX12_byteAt_2 ?_
  refine lv_icmp_ge (tgt := 21) hx hb dX12_byteAt_5 (by decide) (fun c_313 => ?_) (fun c_313 => absurd (by decide) c_313)
  refine lv_iconst (v := (-1)) hx hb dX12_byteAt_21 (by decide) ?_
  exact cI_ret F hP hD hS hK () rfl [0, 1] rfl rfl dX12_byteAt_22 (by decide) (by decide)
abbrev rm_z29_X12_next : Room := { frames := 1, cells := 0, slots := 0, locals := 21 }
set_option maxHeartbeats 4000000 in
set_option maxRecDepth 100000 in
theorem z29_X12_next (l : Launch) (E : cE) (h0 : Nat) (r : Nat → Nat) (g : Nat → Value) (gx : Nat → Int32) (gy : Nat → Int32) (gw : Nat → Int32) (gt : Nat → Int32) (fx : Nat → Int32) (fy : Nat → Int32) (fw : Nat → Int32) (bx : Nat → Int32) (by_ : Nat → Int32) (bw : Nat → Int32) (v : Int32) (hR : mOK r g) (hI : ∀ k, k < 116 → mRef k = false → g k = mI k) (hm1 : flo (stC 0) (2 * 4) gx gy gw) (hm2 : ∀ d, d < 2 * 4 → gt d = 0) (hm3 : ∀ d, d < 2 * 4 → fx d = gx d ∧ fy d = gy d ∧ fw d = gw d) (hm4 : ∀ d, d < 2 * 4 → bx d = gx d ∧ by_ d = gy d ∧ bw d = gw d) : cM l E yX12_next cX12_next 3 none rm_z29_X12_next [.ref h0] [(h0, ob 12 (mfs (updG (updG (updG (updG (updG (updG (updG (updG (updG g 7 (.int 0)) 1 (.int (nI 0))) 2 (.int (nI 0))) 8 (.int (nI 0))) 35 (.int (nI 0))) 36 (.int (nI 0))) 34 (.int (nI 0))) 4 (.int (nI 0))) 3 (.int (nI 0))))), ((r 0), aB E 4096 (fun _ => 0))] (qV E (fun (_u : Unit) => True) (fun _ => [(h0, ob 12 (mfs (updG (updG (updG (updG (updG (updG (updG (updG (updG (updG (updG g 7 (.int 0)) 1 (.int (nI 0))) 2 (.int (nI 0))) 8 (.int (nI 0))) 35 (.int (nI 0))) 36 (.int (nI 0))) 34 (.int (nI 0))) 4 (.int (nI 0))) 3 (.int (nI 0))) 4 (.int (nI 0))) 3 (.int (nI 0))))), ((r 0), aB E 4096 (fun _ => 0))])) := by
  refine cM_of (by decide) (Nat.le_of_ble_eq_true rfl) ?_
  intro p e s m below meth c ls A F hA hS hP hD hK hZ hl
  obtain ⟨hx, hb, hr, hml, hown, hts, hlk, hin⟩ := id F
  have hown : s.vm.findClass RX12 = some m.cls := hown
  have hl : lv_has ls 3 [(0, .ref h0)] := hl
  refine lv_aload_n hx hb dX12_next_0 rfl (lv_at hl 0 rfl) ?_
  refine lv_aload_n hx hb dX12_next_1 rfl (lv_at hl 0 rfl) ?_
  refine va_get (D := E.1) (ci := 12) (v := .int (nI 0)) (C := RX12) (T := TX12) (N := 116) hx hb hts iX12 hown hK hP 0 rfl rfl 2 (by decide) (hts _ wdF_RX12_264) (fun _ h9 => h9) ((mfs_get _ 2 (by decide)).trans (congrArg some (show (updG (updG (updG (updG (updG (updG (updG (updG (updG g 7 (.int 0)) 1 (.int (nI 0))) 2 (.int (nI 0))) 8 (.int (nI 0))) 35 (.int (nI 0))) 36 (.int (nI 0))) 34 (.int (nI 0))) 4 (.int (nI 0))) 3 (.int (nI 0))) 2 = .int (nI 0) from rfl))) dX12_next_2 ?_
  refine cI_go (wr := []) (cM_runV (As := [.int (nI 0)]) (rest := []) F (z30_X12_byteAt l E h0 r g gx gy gw gt fx fy fw bx by_ bw v hR hI hm1 hm2 hm3 hm4) yy_X12_byteAt yi_X12_byteAt wdM_RX12_267 hP hD hS hK hZ hA [0, 1] rfl rfl 0 12 rfl rfl rfl hl.1 rfl (Nat.le_of_ble_eq_true rfl) dX12_next_5 ⟨by decide, by decide⟩ ⟨by decide, by decide⟩) hP hD hS hA [0, 1] [] rfl rfl rfl (by decide) (fun r_299 u_298 H locs hw_297 hP hD hS => ?_)
  try dsimp only at hw_297
  have hP : va_P E.1 vwCl [(h0, ob 12 (mfs (updG (updG (updG (updG (updG (updG (updG (updG (updG g 7 (.int 0)) 1 (.int (nI 0))) 2 (.int (nI 0))) 8 (.int (nI 0))) 35 (.int (nI 0))) 36 (.int (nI 0))) 34 (.int (nI 0))) 4 (.int (nI 0))) 3 (.int (nI 0))))), ((r 0), aB E 4096 (fun _ => 0))] H := hP
  have hD : va_D A [(h0, ob 12 (mfs (updG (updG (updG (updG (updG (updG (updG (updG (updG g 7 (.int 0)) 1 (.int (nI 0))) 2 (.int (nI 0))) 8 (.int (nI 0))) 35 (.int (nI 0))) 36 (.int (nI 0))) 34 (.int (nI 0))) 4 (.int (nI 0))) 3 (.int (nI 0))))), ((r 0), aB E 4096 (fun _ => 0))] := hD
  subst hw_297
  refine cI_go (wr := []) (cM_runS (As := [.int (-1)]) (rest := []) F (z31_X12_isBlank l E h0 r g gx gy gw gt fx fy fw bx by_ bw v hR hI hm1 hm2 hm3 hm4) yy_X12_isBlank wdT_X12_isBlank wdM_RX12_271 hP hD hS hK hZ hA [0, 1] rfl rfl rfl hl.1 rfl (Nat.le_of_ble_eq_true rfl) dX12_next_8 ⟨by decide, by decide⟩ ⟨by decide, by decide⟩) hP hD hS hA [0, 1] [] rfl rfl rfl (by decide) (fun r_306 u_305 H locs hw_304 hP hD hS => ?_)
  try dsimp only at hw_304
  have hP : va_P E.1 vwCl [(h0, ob 12 (mfs (updG (updG (updG (updG (updG (updG (updG (updG (updG g 7 (.int 0)) 1 (.int (nI 0))) 2 (.int (nI 0))) 8 (.int (nI 0))) 35 (.int (nI 0))) 36 (.int (nI 0))) 34 (.int (nI 0))) 4 (.int (nI 0))) 3 (.int (nI 0))))), ((r 0), aB E 4096 (fun _ => 0))] H := hP
  have hD : va_D A [(h0, ob 12 (mfs (updG (updG (updG (updG (updG (updG (updG (updG (updG g 7 (.int 0)) 1 (.int (nI 0))) 2 (.int (nI 0))) 8 (.int (nI 0))) 35 (.int (nI 0))) 36 (.int (nI 0))) 34 (.int (nI 0))) 4 (.int (nI 0))) 3 (.int (nI 0))))), ((r 0), aB E 4096 (fun _ => 0))] := hD
  subst hw_304
  refine lv_if_ne (tgt := 27) hx hb dX12_next_11 (by decide) (fun c_307 => absurd (by decide) c_307) (fun c_307 => ?_)
  refine lv_aload_n hx hb dX12_next_14 rfl (lv_at hl 0 rfl) ?_
  refine lv_aload_n hx hb dX12_next_15 rfl (lv_at hl 0 rfl) ?_
  refine va_get (D := E.1) (ci := 12) (v := .int (nI 0)) (C := RX12) (T := TX12) (N := 116) hx hb hts iX12 hown hK hP 0 rfl rfl 2 (by decide) (hts _ wdF_RX12_264) (fun _ h9 => h9) ((mfs_get _ 2 (by decide)).trans (congrArg some (show (updG (updG (updG (updG (updG (updG (updG (updG (updG g 7 (.int 0)) 1 (.int (nI 0))) 2 (.int (nI 0))) 8 (.int (nI 0))) 35 (.int (nI 0))) 36 (.int (nI 0))) 34 (.int (nI 0))) 4 (.int (nI 0))) 3 (.int (nI 0))) 2 = .int (nI 0) from rfl))) dX12_next_16 ?_
  refine cI_go (wr := []) (cM_runV (As := [.int (nI 0)]) (rest := []) F (z32_X12_byteAt l E h0 r g gx gy gw gt fx fy fw bx by_ bw v hR hI hm1 hm2 hm3 hm4) yy_X12_byteAt yi_X12_byteAt wdM_RX12_267 hP hD hS hK hZ hA [0, 1] rfl rfl 0 12 rfl rfl rfl hl.1 rfl (Nat.le_of_ble_eq_true rfl) dX12_next_19 ⟨by decide, by decide⟩ ⟨by decide, by decide⟩) hP hD hS hA [0, 1] [] rfl rfl rfl (by decide) (fun r_311 u_310 H locs hw_309 hP hD hS => ?_)
  try dsimp only at hw_309
  have hP : va_P E.1 vwCl [(h0, ob 12 (mfs (updG (updG (updG (updG (updG (updG (updG (updG (updG g 7 (.int 0)) 1 (.int (nI 0))) 2 (.int (nI 0))) 8 (.int (nI 0))) 35 (.int (nI 0))) 36 (.int (nI 0))) 34 (.int (nI 0))) 4 (.int (nI 0))) 3 (.int (nI 0))))), ((r 0), aB E 4096 (fun _ => 0))] H := hP
  have hD : va_D A [(h0, ob 12 (mfs (updG (updG (updG (updG (updG (updG (updG (updG (updG g 7 (.int 0)) 1 (.int (nI 0))) 2 (.int (nI 0))) 8 (.int (nI 0))) 35 (.int (nI 0))) 36 (.int (nI 0))) 34 (.int (nI 0))) 4 (.int (nI 0))) 3 (.int (nI 0))))), ((r 0), aB E 4096 (fun _ => 0))] := hD
  subst hw_309
  refine lv_bipush (v := nI 35) hx hb dX12_next_22 (by decide) ?_
  refine lv_icmp_ne (tgt := 91) hx hb dX12_next_24 (by decide) (fun c_312 => ?_) (fun c_312 => absurd c_312 (by decide))
  refine lv_aload_n hx hb dX12_next_91 rfl (lv_at hl 0 rfl) ?_
  refine lv_aload_n hx hb dX12_next_92 rfl (lv_at hl 0 rfl) ?_
  refine va_get (D := E.1) (ci := 12) (v := .int (nI 0)) (C := RX12) (T := TX12) (N := 116) hx hb hts iX12 hown hK hP 0 rfl rfl 2 (by decide) (hts _ wdF_RX12_264) (fun _ h9 => h9) ((mfs_get _ 2 (by decide)).trans (congrArg some (show (updG (updG (updG (updG (updG (updG (updG (updG (updG g 7 (.int 0)) 1 (.int (nI 0))) 2 (.int (nI 0))) 8 (.int (nI 0))) 35 (.int (nI 0))) 36 (.int (nI 0))) 34 (.int (nI 0))) 4 (.int (nI 0))) 3 (.int (nI 0))) 2 = .int (nI 0) from rfl))) dX12_next_93 ?_
  refine va_put (D := E.1) (ci := 12) (v := .int (nI 0)) (ty := .int) (C := RX12) (T := TX12) (N := 116) hx hb hts iX12 tyX12 tyX12_ok nmX12 hown hK hP hD hS 0 rfl rfl 4 (by decide) (hts _ wdF_RX12_275) (fun _ h9 => h9) rfl (by decide +kernel) rfl rfl (by rw [mfs_len]; decide) dX12_next_96 (fun H locs hP hD hS => ?_)
  have hP : va_P E.1 vwCl [(h0, ob 12 ((mfs (updG (updG (updG (updG (updG (updG (updG (updG (updG g 7 (.int 0)) 1 (.int (nI 0))) 2 (.int (nI 0))) 8 (.int (nI 0))) 35 (.int (nI 0))) 36 (.int (nI 0))) 34 (.int (nI 0))) 4 (.int (nI 0))) 3 (.int (nI 0)))).set 4 (.int (nI 0)))), ((r 0), aB E 4096 (fun _ => 0))] H := hP
  have hD : va_D A [(h0, ob 12 ((mfs (updG (updG (updG (updG (updG (updG (updG (updG (updG g 7 (.int 0)) 1 (.int (nI 0))) 2 (.int (nI 0))) 8 (.int (nI 0))) 35 (.int (nI 0))) 36 (.int (nI 0))) 34 (.int (nI 0))) 4 (.int (nI 0))) 3 (.int (nI 0)))).set 4 (.int (nI 0)))), ((r 0), aB E 4096 (fun _ => 0))] := hD
  rw [mfs_set _ 4 _ (by decide)] at hP hD
  refine lv_aload_n hx hb dX12_next_99 rfl (lv_at hl 0 rfl) ?_
  refine lv_aload_n hx hb dX12_next_100 rfl (lv_at hl 0 rfl) ?_
  refine va_get (D := E.1) (ci := 12) (v := .int (nI 0)) (C := RX12) (T := TX12) (N := 116) hx hb hts iX12 hown hK hP 0 rfl rfl 2 (by decide) (hts _ wdF_RX12_264) (fun _ h9 => h9) ((mfs_get _ 2 (by decide)).trans (congrArg some (show (updG (updG (updG (updG (updG (updG (updG (updG (updG (updG g 7 (.int 0)) 1 (.int (nI 0))) 2 (.int (nI 0))) 8 (.int (nI 0))) 35 (.int (nI 0))) 36 (.int (nI 0))) 34 (.int (nI 0))) 4 (.int (nI 0))) 3 (.int (nI 0))) 4 (.int (nI 0))) 2 = .int (nI 0) from rfl))) dX12_next_101 ?_
  refine cI_go (wr := []) (cM_runV (As := [.int (nI 0)]) (rest := []) F (z33_X12_byteAt l E h0 r g gx gy gw gt fx fy fw bx by_ bw v hR hI hm1 hm2 hm3 hm4) yy_X12_byteAt yi_X12_byteAt wdM_RX12_267 hP hD hS hK hZ hA [0, 1] rfl rfl 0 12 rfl rfl rfl hl.1 rfl (Nat.le_of_ble_eq_true rfl) dX12_next_104 ⟨by decide, by decide⟩ ⟨by decide, by decide⟩) hP hD hS hA [0, 1] [] rfl rfl rfl (by decide) (fun r_316 u_315 H locs hw_314 hP hD hS => ?_)
  try dsimp only at hw_314
  have hP : va_P E.1 vwCl [(h0, ob 12 (mfs (updG (updG (updG (updG (updG (updG (updG (updG (updG (updG g 7 (.int 0)) 1 (.int (nI 0))) 2 (.int (nI 0))) 8 (.int (nI 0))) 35 (.int (nI 0))) 36 (.int (nI 0))) 34 (.int (nI 0))) 4 (.int (nI 0))) 3 (.int (nI 0))) 4 (.int (nI 0))))), ((r 0), aB E 4096 (fun _ => 0))] H := hP
  have hD : va_D A [(h0, ob 12 (mfs (updG (updG (updG (updG (updG (updG (updG (updG (updG (updG g 7 (.int 0)) 1 (.int (nI 0))) 2 (.int (nI 0))) 8 (.int (nI 0))) 35 (.int (nI 0))) 36 (.int (nI 0))) 34 (.int (nI 0))) 4 (.int (nI 0))) 3 (.int (nI 0))) 4 (.int (nI 0))))), ((r 0), aB E 4096 (fun _ => 0))] := hD
  subst hw_314
  refine lv_istore_n (lv' := [(1, .int (-1)), (0, .ref h0)]) hx hb dX12_next_107 rfl hl (by decide) rfl (fun ls hl => ?_)
  refine lv_iload_n hx hb dX12_next_108 rfl (lv_at hl 0 rfl) ?_
  refine lv_iconst (v := (-1)) hx hb dX12_next_109 (by decide) ?_
  refine lv_icmp_ne (tgt := 121) hx hb dX12_next_110 (by decide) (fun c_317 => absurd (by decide) c_317) (fun c_317 => ?_)
  refine lv_aload_n hx hb dX12_next_113 rfl (lv_at hl 1 rfl) ?_
  refine lv_iconst (v := nI 0) hx hb dX12_next_114 (by decide) ?_
  refine va_put (D := E.1) (ci := 12) (v := .int (nI 0)) (ty := .int) (C := RX12) (T := TX12) (N := 116) hx hb hts iX12 tyX12 tyX12_ok nmX12 hown hK hP hD hS 0 rfl rfl 3 (by decide) (hts _ wdF_RX12_278) (fun _ h9 => h9) rfl (by decide +kernel) rfl rfl (by rw [mfs_len]; decide) dX12_next_115 (fun H locs hP hD hS => ?_)
  have hP : va_P E.1 vwCl [(h0, ob 12 ((mfs (updG (updG (updG (updG (updG (updG (updG (updG (updG (updG g 7 (.int 0)) 1 (.int (nI 0))) 2 (.int (nI 0))) 8 (.int (nI 0))) 35 (.int (nI 0))) 36 (.int (nI 0))) 34 (.int (nI 0))) 4 (.int (nI 0))) 3 (.int (nI 0))) 4 (.int (nI 0)))).set 3 (.int (nI 0)))), ((r 0), aB E 4096 (fun _ => 0))] H := hP
  have hD : va_D A [(h0, ob 12 ((mfs (updG (updG (updG (updG (updG (updG (updG (updG (updG (updG g 7 (.int 0)) 1 (.int (nI 0))) 2 (.int (nI 0))) 8 (.int (nI 0))) 35 (.int (nI 0))) 36 (.int (nI 0))) 34 (.int (nI 0))) 4 (.int (nI 0))) 3 (.int (nI 0))) 4 (.int (nI 0)))).set 3 (.int (nI 0)))), ((r 0), aB E 4096 (fun _ => 0))] := hD
  rw [mfs_set _ 3 _ (by decide)] at hP hD
  refine lv_goto (tgt := 480) hx hb dX12_next_118 (by decide) ?_
  exact cV_ret F hP hD hS hK () trivial [0, 1] rfl rfl dX12_next_480 (by decide) (by decide)
theorem dX12_named_0 : decode cX12_named 0 = .ok (.aload_n 0, 1) := by decide +kernel
theorem dX12_named_1 : decode cX12_named 1 = .ok (.invokevirtual 425, 3) := by decide +kernel
theorem dX12_named_4 : decode cX12_named 4 = .ok (.aload_n 0, 1) := by decide +kernel
theorem dX12_named_5 : decode cX12_named 5 = .ok (.getfield 278, 3) := by decide +kernel
theorem dX12_named_8 : decode cX12_named 8 = .ok (.iconst 2, 1) := by decide +kernel
theorem dX12_named_9 : decode cX12_named 9 = .ok (.if_icmp .ne 10, 3) := by decide +kernel
theorem dX12_named_12 : decode cX12_named 12 = .ok (.aload_n 0, 1) := by decide +kernel
theorem dX12_named_13 : decode cX12_named 13 = .ok (.invokevirtual 350, 3) := by decide +kernel
theorem dX12_named_16 : decode cX12_named 16 = .ok (.goto 4, 3) := by decide +kernel
theorem dX12_named_19 : decode cX12_named 19 = .ok (.iconst (-1), 1) := by decide +kernel
theorem dX12_named_20 : decode cX12_named 20 = .ok (.istore_n 2, 1) := by decide +kernel
theorem dX12_named_21 : decode cX12_named 21 = .ok (.aload_n 0, 1) := by decide +kernel
theorem dX12_named_22 : decode cX12_named 22 = .ok (.getfield 278, 3) := by decide +kernel
theorem dX12_named_25 : decode cX12_named 25 = .ok (.iconst 2, 1) := by decide +kernel
theorem dX12_named_26 : decode cX12_named 26 = .ok (.if_icmp .ne 7, 3) := by decide +kernel
theorem dX12_named_29 : decode cX12_named 29 = .ok (.iconst 1, 1) := by decide +kernel
theorem dX12_named_30 : decode cX12_named 30 = .ok (.goto 4, 3) := by decide +kernel
theorem dX12_named_33 : decode cX12_named 33 = .ok (.iconst 0, 1) := by decide +kernel
theorem dX12_named_34 : decode cX12_named 34 = .ok (.istore_n 3, 1) := by decide +kernel
theorem dX12_named_35 : decode cX12_named 35 = .ok (.aload_n 0, 1) := by decide +kernel
theorem dX12_named_36 : decode cX12_named 36 = .ok (.invokevirtual 323, 3) := by decide +kernel
theorem dX12_named_39 : decode cX12_named 39 = .ok (.iload_n 3, 1) := by decide +kernel
theorem dX12_named_40 : decode cX12_named 40 = .ok (.ifCond .eq 14, 3) := by decide +kernel
theorem dX12_named_43 : decode cX12_named 43 = .ok (.aload_n 0, 1) := by decide +kernel
theorem dX12_named_44 : decode cX12_named 44 = .ok (.getfield 278, 3) := by decide +kernel
theorem dX12_named_47 : decode cX12_named 47 = .ok (.ifCond .ne 7, 3) := by decide +kernel
theorem dX12_named_50 : decode cX12_named 50 = .ok (.iconst 1, 1) := by decide +kernel
theorem dX12_named_51 : decode cX12_named 51 = .ok (.goto 4, 3) := by decide +kernel
theorem dX12_named_54 : decode cX12_named 54 = .ok (.iconst 0, 1) := by decide +kernel
theorem dX12_named_55 : decode cX12_named 55 = .ok (.istore_n 3, 1) := by decide +kernel
theorem dX12_named_56 : decode cX12_named 56 = .ok (.iload_n 3, 1) := by decide +kernel
theorem dX12_named_57 : decode cX12_named 57 = .ok (.ifCond .ne 10, 3) := by decide +kernel
theorem dX12_named_60 : decode cX12_named 60 = .ok (.aload_n 0, 1) := by decide +kernel
theorem dX12_named_61 : decode cX12_named 61 = .ok (.iconst 1, 1) := by decide +kernel
theorem dX12_named_62 : decode cX12_named 62 = .ok (.putfield 308, 3) := by decide +kernel
theorem dX12_named_65 : decode cX12_named 65 = .ok (.iconst (-1), 1) := by decide +kernel
theorem dX12_named_66 : decode cX12_named 66 = .ok (.ireturn, 1) := by decide +kernel
theorem dX12_named_67 : decode cX12_named 67 = .ok (.iload_n 2, 1) := by decide +kernel
theorem dX12_named_68 : decode cX12_named 68 = .ok (.iconst (-1), 1) := by decide +kernel
theorem dX12_named_69 : decode cX12_named 69 = .ok (.if_icmp .eq 22, 3) := by decide +kernel
theorem dX12_named_72 : decode cX12_named 72 = .ok (.aload_n 0, 1) := by decide +kernel
theorem dX12_named_73 : decode cX12_named 73 = .ok (.getfield 20, 3) := by decide +kernel
theorem dX12_named_76 : decode cX12_named 76 = .ok (.iload_n 2, 1) := by decide +kernel
theorem dX12_named_77 : decode cX12_named 77 = .ok (.iaload, 1) := by decide +kernel
theorem dX12_named_78 : decode cX12_named 78 = .ok (.iload_n 1, 1) := by decide +kernel
theorem dX12_named_79 : decode cX12_named 79 = .ok (.if_icmp .ne 12, 3) := by decide +kernel
theorem dX12_named_82 : decode cX12_named 82 = .ok (.aload_n 0, 1) := by decide +kernel
theorem dX12_named_83 : decode cX12_named 83 = .ok (.getfield 23, 3) := by decide +kernel
theorem dX12_named_86 : decode cX12_named 86 = .ok (.iload_n 2, 1) := by decide +kernel
theorem dX12_named_87 : decode cX12_named 87 = .ok (.iaload, 1) := by decide +kernel
theorem dX12_named_88 : decode cX12_named 88 = .ok (.goto 4, 3) := by decide +kernel
theorem dX12_named_91 : decode cX12_named 91 = .ok (.iconst (-1), 1) := by decide +kernel
theorem dX12_named_92 : decode cX12_named 92 = .ok (.ireturn, 1) := by decide +kernel
abbrev rm_p_X12_named : Room := { frames := 3, cells := 0, slots := 0, locals := 63 }
set_option maxHeartbeats 4000000 in
set_option maxRecDepth 100000 in
theorem p_X12_named (l : Launch) (E : cE) (h0 : Nat) (r : Nat → Nat) (g : Nat → Value) (gx : Nat → Int32) (gy : Nat → Int32) (gw : Nat → Int32) (gt : Nat → Int32) (fx : Nat → Int32) (fy : Nat → Int32) (fw : Nat → Int32) (bx : Nat → Int32) (by_ : Nat → Int32) (bw : Nat → Int32) (v : Int32) (hR : mOK r g) (hI : ∀ k, k < 116 → mRef k = false → g k = mI k) (hm1 : flo (stC 0) (2 * 4) gx gy gw) (hm2 : ∀ d, d < 2 * 4 → gt d = 0) (hm3 : ∀ d, d < 2 * 4 → fx d = gx d ∧ fy d = gy d ∧ fw d = gw d) (hm4 : ∀ d, d < 2 * 4 → bx d = gx d ∧ by_ d = gy d ∧ bw d = gw d) : cM l E yX12_named cX12_named 4 (some .int) rm_p_X12_named [.ref h0, .int v] [(h0, ob 12 (mfs g)), ((r 0), aB E 4096 (fun _ => 0))] (qI E (fun (r : Int32) (_u : Unit) => r = (-1)) (fun _ => [])) := by
  refine cM_of (by decide) (Nat.le_of_ble_eq_true rfl) ?_
  intro p e s m below meth c ls A F hA hS hP hD hK hZ hl
  obtain ⟨hx, hb, hr, hml, hown, hts, hlk, hin⟩ := id F
  have hown : s.vm.findClass RX12 = some m.cls := hown
  have hl : lv_has ls 4 [(0, .ref h0), (1, .int v)] := hl
  refine lv_aload_n hx hb dX12_named_0 rfl (lv_at hl 0 rfl) ?_
  refine cV_go (wr := []) (cM_runV (As := []) (rest := []) F (z23_X12_opensText l E h0 r g gx gy gw gt fx fy fw bx by_ bw v hR hI hm1 hm2 hm3 hm4) yy_X12_opensText yi_X12_opensText wdM_RX12_425 hP hD hS hK hZ hA [0, 1] rfl rfl 0 12 rfl rfl rfl hl.1 rfl (Nat.le_of_ble_eq_true rfl) dX12_named_1 ⟨by decide, by decide⟩ ⟨by decide, by decide⟩) hP hD hS hA [0, 1] [] rfl rfl rfl (by decide) (fun u_292 H locs hw_291 hP hD hS => ?_)
  try dsimp only at hw_291
  have hP : va_P E.1 vwCl [(h0, ob 12 (mfs (updG (updG (updG (updG (updG (updG (updG (updG (updG g 7 (.int 0)) 1 (.int (nI 0))) 2 (.int (nI 0))) 8 (.int (nI 0))) 35 (.int (nI 0))) 36 (.int (nI 0))) 34 (.int (nI 0))) 4 (.int (nI 0))) 3 (.int (nI 0))))), ((r 0), aB E 4096 (fun _ => 0))] H := hP
  have hD : va_D A [(h0, ob 12 (mfs (updG (updG (updG (updG (updG (updG (updG (updG (updG g 7 (.int 0)) 1 (.int (nI 0))) 2 (.int (nI 0))) 8 (.int (nI 0))) 35 (.int (nI 0))) 36 (.int (nI 0))) 34 (.int (nI 0))) 4 (.int (nI 0))) 3 (.int (nI 0))))), ((r 0), aB E 4096 (fun _ => 0))] := hD
  refine lv_aload_n hx hb dX12_named_4 rfl (lv_at hl 0 rfl) ?_
  refine va_get (D := E.1) (ci := 12) (v := .int (nI 0)) (C := RX12) (T := TX12) (N := 116) hx hb hts iX12 hown hK hP 0 rfl rfl 3 (by decide) (hts _ wdF_RX12_278) (fun _ h9 => h9) ((mfs_get _ 3 (by decide)).trans (congrArg some (show (updG (updG (updG (updG (updG (updG (updG (updG (updG g 7 (.int 0)) 1 (.int (nI 0))) 2 (.int (nI 0))) 8 (.int (nI 0))) 35 (.int (nI 0))) 36 (.int (nI 0))) 34 (.int (nI 0))) 4 (.int (nI 0))) 3 (.int (nI 0))) 3 = .int (nI 0) from rfl))) dX12_named_5 ?_
  refine lv_iconst (v := nI 2) hx hb dX12_named_8 (by decide) ?_
  refine lv_icmp_ne (tgt := 19) hx hb dX12_named_9 (by decide) (fun c_294 => ?_) (fun c_294 => absurd c_294 (by decide))
  refine lv_iconst (v := (-1)) hx hb dX12_named_19 (by decide) ?_
  refine lv_istore_n (lv' := [(2, .int (-1)), (0, .ref h0), (1, .int v)]) hx hb dX12_named_20 rfl hl (by decide) rfl (fun ls hl => ?_)
  refine lv_aload_n hx hb dX12_named_21 rfl (lv_at hl 1 rfl) ?_
  refine va_get (D := E.1) (ci := 12) (v := .int (nI 0)) (C := RX12) (T := TX12) (N := 116) hx hb hts iX12 hown hK hP 0 rfl rfl 3 (by decide) (hts _ wdF_RX12_278) (fun _ h9 => h9) ((mfs_get _ 3 (by decide)).trans (congrArg some (show (updG (updG (updG (updG (updG (updG (updG (updG (updG g 7 (.int 0)) 1 (.int (nI 0))) 2 (.int (nI 0))) 8 (.int (nI 0))) 35 (.int (nI 0))) 36 (.int (nI 0))) 34 (.int (nI 0))) 4 (.int (nI 0))) 3 (.int (nI 0))) 3 = .int (nI 0) from rfl))) dX12_named_22 ?_
  refine lv_iconst (v := nI 2) hx hb dX12_named_25 (by decide) ?_
  refine lv_icmp_ne (tgt := 33) hx hb dX12_named_26 (by decide) (fun c_295 => ?_) (fun c_295 => absurd c_295 (by decide))
  refine lv_iconst (v := nI 0) hx hb dX12_named_33 (by decide) ?_
  refine lv_istore_n (lv' := [(3, .int (nI 0)), (2, .int (-1)), (0, .ref h0), (1, .int v)]) hx hb dX12_named_34 rfl hl (by decide) rfl (fun ls hl => ?_)
  refine lv_aload_n hx hb dX12_named_35 rfl (lv_at hl 2 rfl) ?_
  refine cV_go (wr := []) (cM_runV (As := []) (rest := []) F (z29_X12_next l E h0 r g gx gy gw gt fx fy fw bx by_ bw v hR hI hm1 hm2 hm3 hm4) yy_X12_next yi_X12_next wdM_RX12_323 hP hD hS hK hZ hA [0, 1] rfl rfl 0 12 rfl rfl rfl hl.1 rfl (Nat.le_of_ble_eq_true rfl) dX12_named_36 ⟨by decide, by decide⟩ ⟨by decide, by decide⟩) hP hD hS hA [0, 1] [] rfl rfl rfl (by decide) (fun u_319 H locs hw_318 hP hD hS => ?_)
  try dsimp only at hw_318
  have hP : va_P E.1 vwCl [(h0, ob 12 (mfs (updG (updG (updG (updG (updG (updG (updG (updG (updG (updG (updG g 7 (.int 0)) 1 (.int (nI 0))) 2 (.int (nI 0))) 8 (.int (nI 0))) 35 (.int (nI 0))) 36 (.int (nI 0))) 34 (.int (nI 0))) 4 (.int (nI 0))) 3 (.int (nI 0))) 4 (.int (nI 0))) 3 (.int (nI 0))))), ((r 0), aB E 4096 (fun _ => 0))] H := hP
  have hD : va_D A [(h0, ob 12 (mfs (updG (updG (updG (updG (updG (updG (updG (updG (updG (updG (updG g 7 (.int 0)) 1 (.int (nI 0))) 2 (.int (nI 0))) 8 (.int (nI 0))) 35 (.int (nI 0))) 36 (.int (nI 0))) 34 (.int (nI 0))) 4 (.int (nI 0))) 3 (.int (nI 0))) 4 (.int (nI 0))) 3 (.int (nI 0))))), ((r 0), aB E 4096 (fun _ => 0))] := hD
  refine lv_iload_n hx hb dX12_named_39 rfl (lv_at hl 0 rfl) ?_
  refine lv_if_eq (tgt := 54) hx hb dX12_named_40 (by decide) (fun c_321 => ?_) (fun c_321 => absurd (by decide) c_321)
  refine lv_iconst (v := nI 0) hx hb dX12_named_54 (by decide) ?_
  refine lv_istore_n (lv' := [(3, .int (nI 0)), (2, .int (-1)), (0, .ref h0), (1, .int v)]) hx hb dX12_named_55 rfl hl (by decide) rfl (fun ls hl => ?_)
  refine lv_iload_n hx hb dX12_named_56 rfl (lv_at hl 0 rfl) ?_
  refine lv_if_ne (tgt := 67) hx hb dX12_named_57 (by decide) (fun c_322 => absurd (by decide) c_322) (fun c_322 => ?_)
  refine lv_aload_n hx hb dX12_named_60 rfl (lv_at hl 2 rfl) ?_
  refine lv_iconst (v := nI 1) hx hb dX12_named_61 (by decide) ?_
  refine va_put (D := E.1) (ci := 12) (v := .int (nI 1)) (ty := .int) (C := RX12) (T := TX12) (N := 116) hx hb hts iX12 tyX12 tyX12_ok nmX12 hown hK hP hD hS 0 rfl rfl 8 (by decide) (hts _ wdF_RX12_308) (fun _ h9 => h9) rfl (by decide +kernel) rfl rfl (by rw [mfs_len]; decide) dX12_named_62 (fun H locs hP hD hS => ?_)
  have hP : va_P E.1 vwCl [(h0, ob 12 ((mfs (updG (updG (updG (updG (updG (updG (updG (updG (updG (updG (updG g 7 (.int 0)) 1 (.int (nI 0))) 2 (.int (nI 0))) 8 (.int (nI 0))) 35 (.int (nI 0))) 36 (.int (nI 0))) 34 (.int (nI 0))) 4 (.int (nI 0))) 3 (.int (nI 0))) 4 (.int (nI 0))) 3 (.int (nI 0)))).set 8 (.int (nI 1)))), ((r 0), aB E 4096 (fun _ => 0))] H := hP
  have hD : va_D A [(h0, ob 12 ((mfs (updG (updG (updG (updG (updG (updG (updG (updG (updG (updG (updG g 7 (.int 0)) 1 (.int (nI 0))) 2 (.int (nI 0))) 8 (.int (nI 0))) 35 (.int (nI 0))) 36 (.int (nI 0))) 34 (.int (nI 0))) 4 (.int (nI 0))) 3 (.int (nI 0))) 4 (.int (nI 0))) 3 (.int (nI 0)))).set 8 (.int (nI 1)))), ((r 0), aB E 4096 (fun _ => 0))] := hD
  rw [mfs_set _ 8 _ (by decide)] at hP hD
  refine lv_iconst (v := (-1)) hx hb dX12_named_65 (by decide) ?_
  exact cI_ret F hP hD hS hK () rfl [] rfl rfl dX12_named_66 (by decide) (by decide)
theorem yy_X12_named : cY yX12_named cX12_named 4 (some .int) 1 := ⟨wdK_X12_named, wdZ_RX12, by decide +kernel⟩
theorem yi_X12_named : cYi yX12_named := ⟨wdN_X12_named, wdS_X12_named⟩
theorem dX12_step_0 : decode cX12_step 0 = .ok (.aload_n 0, 1) := by decide +kernel
theorem dX12_step_1 : decode cX12_step 1 = .ok (.getfield 241, 3) := by decide +kernel
theorem dX12_step_4 : decode cX12_step 4 = .ok (.ifCond .ne 5, 3) := by decide +kernel
theorem dX12_step_7 : decode cX12_step 7 = .ok (.iconst (-1), 1) := by decide +kernel
theorem dX12_step_8 : decode cX12_step 8 = .ok (.ireturn, 1) := by decide +kernel
theorem dX12_step_9 : decode cX12_step 9 = .ok (.aload_n 0, 1) := by decide +kernel
theorem dX12_step_10 : decode cX12_step 10 = .ok (.invokevirtual 577, 3) := by decide +kernel
theorem dX12_step_13 : decode cX12_step 13 = .ok (.aload_n 0, 1) := by decide +kernel
theorem dX12_step_14 : decode cX12_step 14 = .ok (.invokevirtual 620, 3) := by decide +kernel
theorem dX12_step_17 : decode cX12_step 17 = .ok (.istore_n 1, 1) := by decide +kernel
theorem dX12_step_18 : decode cX12_step 18 = .ok (.iload_n 1, 1) := by decide +kernel
theorem dX12_step_19 : decode cX12_step 19 = .ok (.iconst 1, 1) := by decide +kernel
theorem dX12_step_20 : decode cX12_step 20 = .ok (.if_icmp .eq 10, 3) := by decide +kernel
theorem dX12_step_23 : decode cX12_step 23 = .ok (.aload_n 0, 1) := by decide +kernel
theorem dX12_step_24 : decode cX12_step 24 = .ok (.iconst 0, 1) := by decide +kernel
theorem dX12_step_25 : decode cX12_step 25 = .ok (.putfield 241, 3) := by decide +kernel
theorem dX12_step_28 : decode cX12_step 28 = .ok (.iload_n 1, 1) := by decide +kernel
theorem dX12_step_29 : decode cX12_step 29 = .ok (.ireturn, 1) := by decide +kernel
theorem dX12_step_30 : decode cX12_step 30 = .ok (.aload_n 0, 1) := by decide +kernel
theorem dX12_step_31 : decode cX12_step 31 = .ok (.aload_n 0, 1) := by decide +kernel
theorem dX12_step_32 : decode cX12_step 32 = .ok (.getfield 608, 3) := by decide +kernel
theorem dX12_step_35 : decode cX12_step 35 = .ok (.aload_n 0, 1) := by decide +kernel
theorem dX12_step_36 : decode cX12_step 36 = .ok (.getfield 110, 3) := by decide +kernel
theorem dX12_step_39 : decode cX12_step 39 = .ok (.aload_n 0, 1) := by decide +kernel
theorem dX12_step_40 : decode cX12_step 40 = .ok (.getfield 245, 3) := by decide +kernel
theorem dX12_step_43 : decode cX12_step 43 = .ok (.iconst 1, 1) := by decide +kernel
theorem dX12_step_44 : decode cX12_step 44 = .ok (.isub, 1) := by decide +kernel
theorem dX12_step_45 : decode cX12_step 45 = .ok (.laload, 1) := by decide +kernel
theorem dX12_step_46 : decode cX12_step 46 = .ok (.invokevirtual 584, 3) := by decide +kernel
theorem dX12_step_49 : decode cX12_step 49 = .ok (.ifCond .le 10, 3) := by decide +kernel
theorem dX12_step_52 : decode cX12_step 52 = .ok (.aload_n 0, 1) := by decide +kernel
theorem dX12_step_53 : decode cX12_step 53 = .ok (.iconst 0, 1) := by decide +kernel
theorem dX12_step_54 : decode cX12_step 54 = .ok (.putfield 241, 3) := by decide +kernel
theorem dX12_step_57 : decode cX12_step 57 = .ok (.iconst 2, 1) := by decide +kernel
theorem dX12_step_58 : decode cX12_step 58 = .ok (.ireturn, 1) := by decide +kernel
theorem dX12_step_59 : decode cX12_step 59 = .ok (.aload_n 0, 1) := by decide +kernel
theorem dX12_step_60 : decode cX12_step 60 = .ok (.invokevirtual 588, 3) := by decide +kernel
theorem dX12_step_63 : decode cX12_step 63 = .ok (.iconst 1, 1) := by decide +kernel
theorem dX12_step_64 : decode cX12_step 64 = .ok (.ireturn, 1) := by decide +kernel
abbrev rm_p_X12_step : Room := { frames := 0, cells := 0, slots := 0, locals := 0 }
set_option maxHeartbeats 4000000 in
set_option maxRecDepth 100000 in
theorem p_X12_step (l : Launch) (E : cE) (h0 : Nat) (r : Nat → Nat) (g : Nat → Value) (gx : Nat → Int32) (gy : Nat → Int32) (gw : Nat → Int32) (gt : Nat → Int32) (fx : Nat → Int32) (fy : Nat → Int32) (fw : Nat → Int32) (bx : Nat → Int32) (by_ : Nat → Int32) (bw : Nat → Int32) (hR : mOK r g) (hI : ∀ k, k < 116 → mRef k = false → g k = mI k) (hm1 : flo (stC 0) (2 * 4) gx gy gw) (hm2 : ∀ d, d < 2 * 4 → gt d = 0) (hm3 : ∀ d, d < 2 * 4 → fx d = gx d ∧ fy d = gy d ∧ fw d = gw d) (hm4 : ∀ d, d < 2 * 4 → bx d = gx d ∧ by_ d = gy d ∧ bw d = gw d) : cM l E yX12_step cX12_step 2 (some .int) rm_p_X12_step [.ref h0] [(h0, ob 12 (mfs g))] (qI E (fun (r : Int32) (_u : Unit) => r = (-1)) (fun _ => [])) := by
  refine cM_of (by decide) (Nat.le_of_ble_eq_true rfl) ?_
  intro p e s m below meth c ls A F hA hS hP hD hK hZ hl
  obtain ⟨hx, hb, hr, hml, hown, hts, hlk, hin⟩ := id F
  have hown : s.vm.findClass RX12 = some m.cls := hown
  have hl : lv_has ls 2 [(0, .ref h0)] := hl
  refine lv_aload_n hx hb dX12_step_0 rfl (lv_at hl 0 rfl) ?_
  refine va_get (D := E.1) (ci := 12) (v := .int 0) (C := RX12) (T := TX12) (N := 116) hx hb hts iX12 hown hK hP 0 rfl rfl 50 (by decide) (hts _ wdF_RX12_241) (fun _ h9 => h9) ((mfs_get _ 50 (by decide)).trans (congrArg some (show (g) 50 = .int 0 from (hI 50 (by decide) rfl)))) dX12_step_1 ?_
  refine lv_if_ne (tgt := 9) hx hb dX12_step_4 (by decide) (fun c_323 => absurd (by decide) c_323) (fun c_323 => ?_)
  refine lv_iconst (v := (-1)) hx hb dX12_step_7 (by decide) ?_
  exact cI_ret F hP hD hS hK () rfl [] rfl rfl dX12_step_8 (by decide) (by decide)
theorem yy_X12_step : cY yX12_step cX12_step 2 (some .int) 0 := ⟨wdK_X12_step, wdZ_RX12, by decide +kernel⟩
theorem yi_X12_step : cYi yX12_step := ⟨wdN_X12_step, wdS_X12_step⟩
theorem dX12_cheapest_0 : decode cX12_cheapest 0 = .ok (.aload_n 0, 1) := by decide +kernel
theorem dX12_cheapest_1 : decode cX12_cheapest 1 = .ok (.getfield 248, 3) := by decide +kernel
theorem dX12_cheapest_4 : decode cX12_cheapest 4 = .ok (.lconst 0, 1) := by decide +kernel
theorem dX12_cheapest_5 : decode cX12_cheapest 5 = .ok (.lcmp, 1) := by decide +kernel
theorem dX12_cheapest_6 : decode cX12_cheapest 6 = .ok (.ifCond .ne 5, 3) := by decide +kernel
theorem dX12_cheapest_9 : decode cX12_cheapest 9 = .ok (.iconst (-1), 1) := by decide +kernel
theorem dX12_cheapest_10 : decode cX12_cheapest 10 = .ok (.ireturn, 1) := by decide +kernel
theorem dX12_cheapest_11 : decode cX12_cheapest 11 = .ok (.iconst 0, 1) := by decide +kernel
theorem dX12_cheapest_12 : decode cX12_cheapest 12 = .ok (.istore_n 1, 1) := by decide +kernel
theorem dX12_cheapest_13 : decode cX12_cheapest 13 = .ok (.iconst 0, 1) := by decide +kernel
theorem dX12_cheapest_14 : decode cX12_cheapest 14 = .ok (.istore_n 2, 1) := by decide +kernel
theorem dX12_cheapest_15 : decode cX12_cheapest 15 = .ok (.iload_n 2, 1) := by decide +kernel
theorem dX12_cheapest_16 : decode cX12_cheapest 16 = .ok (.aload_n 0, 1) := by decide +kernel
theorem dX12_cheapest_17 : decode cX12_cheapest 17 = .ok (.getfield 656, 3) := by decide +kernel
theorem dX12_cheapest_20 : decode cX12_cheapest 20 = .ok (.if_icmp .ge 77, 3) := by decide +kernel
theorem dX12_cheapest_23 : decode cX12_cheapest 23 = .ok (.iconst 0, 1) := by decide +kernel
theorem dX12_cheapest_24 : decode cX12_cheapest 24 = .ok (.istore_n 3, 1) := by decide +kernel
theorem dX12_cheapest_25 : decode cX12_cheapest 25 = .ok (.aload_n 0, 1) := by decide +kernel
theorem dX12_cheapest_26 : decode cX12_cheapest 26 = .ok (.iload_n 1, 1) := by decide +kernel
theorem dX12_cheapest_27 : decode cX12_cheapest 27 = .ok (.iload_n 3, 1) := by decide +kernel
theorem dX12_cheapest_28 : decode cX12_cheapest 28 = .ok (.invokevirtual 668, 3) := by decide +kernel
theorem dX12_cheapest_31 : decode cX12_cheapest 31 = .ok (.ifCond .eq 35, 3) := by decide +kernel
theorem dX12_cheapest_34 : decode cX12_cheapest 34 = .ok (.aload_n 0, 1) := by decide +kernel
theorem dX12_cheapest_35 : decode cX12_cheapest 35 = .ok (.getfield 187, 3) := by decide +kernel
theorem dX12_cheapest_38 : decode cX12_cheapest 38 = .ok (.aload_n 0, 1) := by decide +kernel
theorem dX12_cheapest_39 : decode cX12_cheapest 39 = .ok (.getfield 181, 3) := by decide +kernel
theorem dX12_cheapest_42 : decode cX12_cheapest 42 = .ok (.bipush 32, 2) := by decide +kernel
theorem dX12_cheapest_44 : decode cX12_cheapest 44 = .ok (.iload_n 1, 1) := by decide +kernel
theorem dX12_cheapest_45 : decode cX12_cheapest 45 = .ok (.imul, 1) := by decide +kernel
theorem dX12_cheapest_46 : decode cX12_cheapest 46 = .ok (.iload_n 3, 1) := by decide +kernel
theorem dX12_cheapest_47 : decode cX12_cheapest 47 = .ok (.iadd, 1) := by decide +kernel
theorem dX12_cheapest_48 : decode cX12_cheapest 48 = .ok (.iaload, 1) := by decide +kernel
theorem dX12_cheapest_49 : decode cX12_cheapest 49 = .ok (.iaload, 1) := by decide +kernel
theorem dX12_cheapest_50 : decode cX12_cheapest 50 = .ok (.aload_n 0, 1) := by decide +kernel
theorem dX12_cheapest_51 : decode cX12_cheapest 51 = .ok (.getfield 190, 3) := by decide +kernel
theorem dX12_cheapest_54 : decode cX12_cheapest 54 = .ok (.iload_n 3, 1) := by decide +kernel
theorem dX12_cheapest_55 : decode cX12_cheapest 55 = .ok (.iaload, 1) := by decide +kernel
theorem dX12_cheapest_56 : decode cX12_cheapest 56 = .ok (.iadd, 1) := by decide +kernel
theorem dX12_cheapest_57 : decode cX12_cheapest 57 = .ok (.aload_n 0, 1) := by decide +kernel
theorem dX12_cheapest_58 : decode cX12_cheapest 58 = .ok (.getfield 187, 3) := by decide +kernel
theorem dX12_cheapest_61 : decode cX12_cheapest 61 = .ok (.iload_n 1, 1) := by decide +kernel
theorem dX12_cheapest_62 : decode cX12_cheapest 62 = .ok (.iaload, 1) := by decide +kernel
theorem dX12_cheapest_63 : decode cX12_cheapest 63 = .ok (.if_icmp .eq 9, 3) := by decide +kernel
theorem dX12_cheapest_66 : decode cX12_cheapest 66 = .ok (.iinc 3 1, 3) := by decide +kernel
theorem dX12_cheapest_69 : decode cX12_cheapest 69 = .ok (.goto (-44), 3) := by decide +kernel
theorem dX12_cheapest_72 : decode cX12_cheapest 72 = .ok (.aload_n 0, 1) := by decide +kernel
theorem dX12_cheapest_73 : decode cX12_cheapest 73 = .ok (.getfield 199, 3) := by decide +kernel
theorem dX12_cheapest_76 : decode cX12_cheapest 76 = .ok (.iload_n 2, 1) := by decide +kernel
theorem dX12_cheapest_77 : decode cX12_cheapest 77 = .ok (.iload_n 3, 1) := by decide +kernel
theorem dX12_cheapest_78 : decode cX12_cheapest 78 = .ok (.iastore, 1) := by decide +kernel
theorem dX12_cheapest_79 : decode cX12_cheapest 79 = .ok (.aload_n 0, 1) := by decide +kernel
theorem dX12_cheapest_80 : decode cX12_cheapest 80 = .ok (.getfield 181, 3) := by decide +kernel
theorem dX12_cheapest_83 : decode cX12_cheapest 83 = .ok (.bipush 32, 2) := by decide +kernel
theorem dX12_cheapest_85 : decode cX12_cheapest 85 = .ok (.iload_n 1, 1) := by decide +kernel
theorem dX12_cheapest_86 : decode cX12_cheapest 86 = .ok (.imul, 1) := by decide +kernel
theorem dX12_cheapest_87 : decode cX12_cheapest 87 = .ok (.iload_n 3, 1) := by decide +kernel
theorem dX12_cheapest_88 : decode cX12_cheapest 88 = .ok (.iadd, 1) := by decide +kernel
theorem dX12_cheapest_89 : decode cX12_cheapest 89 = .ok (.iaload, 1) := by decide +kernel
theorem dX12_cheapest_90 : decode cX12_cheapest 90 = .ok (.istore_n 1, 1) := by decide +kernel
theorem dX12_cheapest_91 : decode cX12_cheapest 91 = .ok (.iinc 2 1, 3) := by decide +kernel
theorem dX12_cheapest_94 : decode cX12_cheapest 94 = .ok (.goto (-79), 3) := by decide +kernel
theorem dX12_cheapest_97 : decode cX12_cheapest 97 = .ok (.aload_n 0, 1) := by decide +kernel
theorem dX12_cheapest_98 : decode cX12_cheapest 98 = .ok (.aload_n 0, 1) := by decide +kernel
theorem dX12_cheapest_99 : decode cX12_cheapest 99 = .ok (.getfield 656, 3) := by decide +kernel
theorem dX12_cheapest_102 : decode cX12_cheapest 102 = .ok (.putfield 196, 3) := by decide +kernel
theorem dX12_cheapest_105 : decode cX12_cheapest 105 = .ok (.aload_n 0, 1) := by decide +kernel
theorem dX12_cheapest_106 : decode cX12_cheapest 106 = .ok (.iconst 0, 1) := by decide +kernel
theorem dX12_cheapest_107 : decode cX12_cheapest 107 = .ok (.putfield 671, 3) := by decide +kernel
theorem dX12_cheapest_110 : decode cX12_cheapest 110 = .ok (.aload_n 0, 1) := by decide +kernel
theorem dX12_cheapest_111 : decode cX12_cheapest 111 = .ok (.getfield 187, 3) := by decide +kernel
theorem dX12_cheapest_114 : decode cX12_cheapest 114 = .ok (.iconst 0, 1) := by decide +kernel
theorem dX12_cheapest_115 : decode cX12_cheapest 115 = .ok (.iaload, 1) := by decide +kernel
theorem dX12_cheapest_116 : decode cX12_cheapest 116 = .ok (.ireturn, 1) := by decide +kernel
abbrev rm_p_X12_cheapest : Room := { frames := 0, cells := 0, slots := 0, locals := 0 }
set_option maxHeartbeats 4000000 in
set_option maxRecDepth 100000 in
theorem p_X12_cheapest (l : Launch) (E : cE) (h0 : Nat) (r : Nat → Nat) (g : Nat → Value) (gx : Nat → Int32) (gy : Nat → Int32) (gw : Nat → Int32) (gt : Nat → Int32) (fx : Nat → Int32) (fy : Nat → Int32) (fw : Nat → Int32) (bx : Nat → Int32) (by_ : Nat → Int32) (bw : Nat → Int32) (hR : mOK r g) (hI : ∀ k, k < 116 → mRef k = false → g k = mI k) (hm1 : flo (stC 0) (2 * 4) gx gy gw) (hm2 : ∀ d, d < 2 * 4 → gt d = 0) (hm3 : ∀ d, d < 2 * 4 → fx d = gx d ∧ fy d = gy d ∧ fw d = gw d) (hm4 : ∀ d, d < 2 * 4 → bx d = gx d ∧ by_ d = gy d ∧ bw d = gw d) : cM l E yX12_cheapest cX12_cheapest 4 (some .int) rm_p_X12_cheapest [.ref h0] [(h0, ob 12 (mfs g))] (qI E (fun (r : Int32) (_u : Unit) => r = (-1)) (fun _ => [])) := by
  refine cM_of (by decide) (Nat.le_of_ble_eq_true rfl) ?_
  intro p e s m below meth c ls A F hA hS hP hD hK hZ hl
  obtain ⟨hx, hb, hr, hml, hown, hts, hlk, hin⟩ := id F
  have hown : s.vm.findClass RX12 = some m.cls := hown
  have hl : lv_has ls 4 [(0, .ref h0)] := hl
  refine lv_aload_n hx hb dX12_cheapest_0 rfl (lv_at hl 0 rfl) ?_
  refine va_get (D := E.1) (ci := 12) (v := .long 0) (C := RX12) (T := TX12) (N := 116) hx hb hts iX12 hown hK hP 0 rfl rfl 100 (by decide) (hts _ wdF_RX12_248) (fun _ h9 => h9) ((mfs_get _ 100 (by decide)).trans (congrArg some (show (g) 100 = .long 0 from (hI 100 (by decide) rfl)))) dX12_cheapest_1 ?_
  refine lv_lconst (v := 0) hx hb dX12_cheapest_4 (by decide) ?_
  refine W.lcmp hx hb dX12_cheapest_5 ?_
  rw [show (lg_cmp 0 0 : Int32) = nI 0 from by decide +kernel]
  refine lv_if_ne (tgt := 11) hx hb dX12_cheapest_6 (by decide) (fun c_324 => absurd (by decide) c_324) (fun c_324 => ?_)
  refine lv_iconst (v := (-1)) hx hb dX12_cheapest_9 (by decide) ?_
  exact cI_ret F hP hD hS hK () rfl [] rfl rfl dX12_cheapest_10 (by decide) (by decide)
theorem yy_X12_cheapest : cY yX12_cheapest cX12_cheapest 4 (some .int) 0 := ⟨wdK_X12_cheapest, wdZ_RX12, by decide +kernel⟩
theorem yi_X12_cheapest : cYi yX12_cheapest := ⟨wdN_X12_cheapest, wdS_X12_cheapest⟩
theorem dX12_draw_0 : decode cX12_draw 0 = .ok (.aload_n 0, 1) := by decide +kernel
theorem dX12_draw_1 : decode cX12_draw 1 = .ok (.getfield 248, 3) := by decide +kernel
theorem dX12_draw_4 : decode cX12_draw 4 = .ok (.lconst 0, 1) := by decide +kernel
theorem dX12_draw_5 : decode cX12_draw 5 = .ok (.lcmp, 1) := by decide +kernel
theorem dX12_draw_6 : decode cX12_draw 6 = .ok (.ifCond .ne 5, 3) := by decide +kernel
theorem dX12_draw_9 : decode cX12_draw 9 = .ok (.iconst 0, 1) := by decide +kernel
theorem dX12_draw_10 : decode cX12_draw 10 = .ok (.ireturn, 1) := by decide +kernel
theorem dX12_draw_11 : decode cX12_draw 11 = .ok (.iload_n 1, 1) := by decide +kernel
theorem dX12_draw_12 : decode cX12_draw 12 = .ok (.i2l, 1) := by decide +kernel
theorem dX12_draw_13 : decode cX12_draw 13 = .ok (.ldc2_w 678, 3) := by decide +kernel
theorem dX12_draw_16 : decode cX12_draw 16 = .ok (.land, 1) := by decide +kernel
theorem dX12_draw_17 : decode cX12_draw 17 = .ok (.lstore_n 3, 1) := by decide +kernel
theorem dX12_draw_18 : decode cX12_draw 18 = .ok (.iload_n 2, 1) := by decide +kernel
theorem dX12_draw_19 : decode cX12_draw 19 = .ok (.i2l, 1) := by decide +kernel
theorem dX12_draw_20 : decode cX12_draw 20 = .ok (.ldc2_w 678, 3) := by decide +kernel
theorem dX12_draw_23 : decode cX12_draw 23 = .ok (.land, 1) := by decide +kernel
theorem dX12_draw_24 : decode cX12_draw 24 = .ok (.lstore 5, 2) := by decide +kernel
theorem dX12_draw_26 : decode cX12_draw 26 = .ok (.aload_n 0, 1) := by decide +kernel
theorem dX12_draw_27 : decode cX12_draw 27 = .ok (.getfield 248, 3) := by decide +kernel
theorem dX12_draw_30 : decode cX12_draw 30 = .ok (.bipush 32, 2) := by decide +kernel
theorem dX12_draw_32 : decode cX12_draw 32 = .ok (.lushr, 1) := by decide +kernel
theorem dX12_draw_33 : decode cX12_draw 33 = .ok (.lstore 7, 2) := by decide +kernel
theorem dX12_draw_35 : decode cX12_draw 35 = .ok (.aload_n 0, 1) := by decide +kernel
theorem dX12_draw_36 : decode cX12_draw 36 = .ok (.getfield 248, 3) := by decide +kernel
theorem dX12_draw_39 : decode cX12_draw 39 = .ok (.ldc2_w 678, 3) := by decide +kernel
theorem dX12_draw_42 : decode cX12_draw 42 = .ok (.land, 1) := by decide +kernel
theorem dX12_draw_43 : decode cX12_draw 43 = .ok (.lstore 9, 2) := by decide +kernel
theorem dX12_draw_45 : decode cX12_draw 45 = .ok (.lload 5, 2) := by decide +kernel
theorem dX12_draw_47 : decode cX12_draw 47 = .ok (.lload 9, 2) := by decide +kernel
theorem dX12_draw_49 : decode cX12_draw 49 = .ok (.lmul, 1) := by decide +kernel
theorem dX12_draw_50 : decode cX12_draw 50 = .ok (.bipush 32, 2) := by decide +kernel
theorem dX12_draw_52 : decode cX12_draw 52 = .ok (.lushr, 1) := by decide +kernel
theorem dX12_draw_53 : decode cX12_draw 53 = .ok (.lstore 11, 2) := by decide +kernel
theorem dX12_draw_55 : decode cX12_draw 55 = .ok (.lload_n 3, 1) := by decide +kernel
theorem dX12_draw_56 : decode cX12_draw 56 = .ok (.lload 9, 2) := by decide +kernel
theorem dX12_draw_58 : decode cX12_draw 58 = .ok (.lmul, 1) := by decide +kernel
theorem dX12_draw_59 : decode cX12_draw 59 = .ok (.lload 11, 2) := by decide +kernel
theorem dX12_draw_61 : decode cX12_draw 61 = .ok (.ladd, 1) := by decide +kernel
theorem dX12_draw_62 : decode cX12_draw 62 = .ok (.lstore 13, 2) := by decide +kernel
theorem dX12_draw_64 : decode cX12_draw 64 = .ok (.lload 5, 2) := by decide +kernel
theorem dX12_draw_66 : decode cX12_draw 66 = .ok (.lload 7, 2) := by decide +kernel
theorem dX12_draw_68 : decode cX12_draw 68 = .ok (.lmul, 1) := by decide +kernel
theorem dX12_draw_69 : decode cX12_draw 69 = .ok (.lload 13, 2) := by decide +kernel
theorem dX12_draw_71 : decode cX12_draw 71 = .ok (.ldc2_w 678, 3) := by decide +kernel
theorem dX12_draw_74 : decode cX12_draw 74 = .ok (.land, 1) := by decide +kernel
theorem dX12_draw_75 : decode cX12_draw 75 = .ok (.ladd, 1) := by decide +kernel
theorem dX12_draw_76 : decode cX12_draw 76 = .ok (.lstore 15, 2) := by decide +kernel
theorem dX12_draw_78 : decode cX12_draw 78 = .ok (.aload_n 0, 1) := by decide +kernel
theorem dX12_draw_79 : decode cX12_draw 79 = .ok (.lload_n 3, 1) := by decide +kernel
theorem dX12_draw_80 : decode cX12_draw 80 = .ok (.lload 7, 2) := by decide +kernel
theorem dX12_draw_82 : decode cX12_draw 82 = .ok (.lmul, 1) := by decide +kernel
theorem dX12_draw_83 : decode cX12_draw 83 = .ok (.lload 13, 2) := by decide +kernel
theorem dX12_draw_85 : decode cX12_draw 85 = .ok (.bipush 32, 2) := by decide +kernel
theorem dX12_draw_87 : decode cX12_draw 87 = .ok (.lushr, 1) := by decide +kernel
theorem dX12_draw_88 : decode cX12_draw 88 = .ok (.ladd, 1) := by decide +kernel
theorem dX12_draw_89 : decode cX12_draw 89 = .ok (.lload 15, 2) := by decide +kernel
theorem dX12_draw_91 : decode cX12_draw 91 = .ok (.bipush 32, 2) := by decide +kernel
theorem dX12_draw_93 : decode cX12_draw 93 = .ok (.lushr, 1) := by decide +kernel
theorem dX12_draw_94 : decode cX12_draw 94 = .ok (.ladd, 1) := by decide +kernel
theorem dX12_draw_95 : decode cX12_draw 95 = .ok (.invokevirtual 674, 3) := by decide +kernel
theorem dX12_draw_98 : decode cX12_draw 98 = .ok (.iconst 1, 1) := by decide +kernel
theorem dX12_draw_99 : decode cX12_draw 99 = .ok (.ireturn, 1) := by decide +kernel
abbrev rm_p_X12_draw : Room := { frames := 0, cells := 0, slots := 0, locals := 0 }
set_option maxHeartbeats 4000000 in
set_option maxRecDepth 100000 in
theorem p_X12_draw (l : Launch) (E : cE) (h0 : Nat) (r : Nat → Nat) (g : Nat → Value) (gx : Nat → Int32) (gy : Nat → Int32) (gw : Nat → Int32) (gt : Nat → Int32) (fx : Nat → Int32) (fy : Nat → Int32) (fw : Nat → Int32) (bx : Nat → Int32) (by_ : Nat → Int32) (bw : Nat → Int32) (a : Int32) (b : Int32) (hR : mOK r g) (hI : ∀ k, k < 116 → mRef k = false → g k = mI k) (hm1 : flo (stC 0) (2 * 4) gx gy gw) (hm2 : ∀ d, d < 2 * 4 → gt d = 0) (hm3 : ∀ d, d < 2 * 4 → fx d = gx d ∧ fy d = gy d ∧ fw d = gw d) (hm4 : ∀ d, d < 2 * 4 → bx d = gx d ∧ by_ d = gy d ∧ bw d = gw d) : cM l E yX12_draw cX12_draw 17 (some .boolean) rm_p_X12_draw [.ref h0, .int a, .int b] [(h0, ob 12 (mfs g))] (qI E (fun (r : Int32) (_u : Unit) => r = nI 0) (fun _ => [])) := by
  refine cM_of (by decide) (Nat.le_of_ble_eq_true rfl) ?_
  intro p e s m below meth c ls A F hA hS hP hD hK hZ hl
  obtain ⟨hx, hb, hr, hml, hown, hts, hlk, hin⟩ := id F
  have hown : s.vm.findClass RX12 = some m.cls := hown
  have hl : lv_has ls 17 [(0, .ref h0), (1, .int a), (2, .int b)] := hl
  refine lv_aload_n hx hb dX12_draw_0 rfl (lv_at hl 0 rfl) ?_
  refine va_get (D := E.1) (ci := 12) (v := .long 0) (C := RX12) (T := TX12) (N := 116) hx hb hts iX12 hown hK hP 0 rfl rfl 100 (by decide) (hts _ wdF_RX12_248) (fun _ h9 => h9) ((mfs_get _ 100 (by decide)).trans (congrArg some (show (g) 100 = .long 0 from (hI 100 (by decide) rfl)))) dX12_draw_1 ?_
  refine lv_lconst (v := 0) hx hb dX12_draw_4 (by decide) ?_
  refine W.lcmp hx hb dX12_draw_5 ?_
  rw [show (lg_cmp 0 0 : Int32) = nI 0 from by decide +kernel]
  refine lv_if_ne (tgt := 11) hx hb dX12_draw_6 (by decide) (fun c_325 => absurd (by decide) c_325) (fun c_325 => ?_)
  refine lv_iconst (v := nI 0) hx hb dX12_draw_9 (by decide) ?_
  exact cB_ret F hP hD hS hK (by decide) () rfl [] rfl rfl dX12_draw_10 (by decide) (by decide)
theorem yy_X12_draw : cY yX12_draw cX12_draw 17 (some .boolean) 2 := ⟨wdK_X12_draw, wdZ_RX12, by decide +kernel⟩
theorem yi_X12_draw : cYi yX12_draw := ⟨wdN_X12_draw, wdS_X12_draw⟩
theorem dX12_follow_0 : decode cX12_follow 0 = .ok (.aload_n 0, 1) := by decide +kernel
theorem dX12_follow_1 : decode cX12_follow 1 = .ok (.getfield 671, 3) := by decide +kernel
theorem dX12_follow_4 : decode cX12_follow 4 = .ok (.aload_n 0, 1) := by decide +kernel
theorem dX12_follow_5 : decode cX12_follow 5 = .ok (.getfield 196, 3) := by decide +kernel
theorem dX12_follow_8 : decode cX12_follow 8 = .ok (.if_icmp .lt 5, 3) := by decide +kernel
theorem dX12_follow_11 : decode cX12_follow 11 = .ok (.iconst (-1), 1) := by decide +kernel
theorem dX12_follow_12 : decode cX12_follow 12 = .ok (.ireturn, 1) := by decide +kernel
theorem dX12_follow_13 : decode cX12_follow 13 = .ok (.aload_n 0, 1) := by decide +kernel
theorem dX12_follow_14 : decode cX12_follow 14 = .ok (.invokevirtual 577, 3) := by decide +kernel
theorem dX12_follow_17 : decode cX12_follow 17 = .ok (.aload_n 0, 1) := by decide +kernel
theorem dX12_follow_18 : decode cX12_follow 18 = .ok (.aload_n 0, 1) := by decide +kernel
theorem dX12_follow_19 : decode cX12_follow 19 = .ok (.getfield 62, 3) := by decide +kernel
theorem dX12_follow_22 : decode cX12_follow 22 = .ok (.aload_n 0, 1) := by decide +kernel
theorem dX12_follow_23 : decode cX12_follow 23 = .ok (.getfield 199, 3) := by decide +kernel
theorem dX12_follow_26 : decode cX12_follow 26 = .ok (.aload_n 0, 1) := by decide +kernel
theorem dX12_follow_27 : decode cX12_follow 27 = .ok (.getfield 671, 3) := by decide +kernel
theorem dX12_follow_30 : decode cX12_follow 30 = .ok (.iaload, 1) := by decide +kernel
theorem dX12_follow_31 : decode cX12_follow 31 = .ok (.iaload, 1) := by decide +kernel
theorem dX12_follow_32 : decode cX12_follow 32 = .ok (.aload_n 0, 1) := by decide +kernel
theorem dX12_follow_33 : decode cX12_follow 33 = .ok (.invokevirtual 580, 3) := by decide +kernel
theorem dX12_follow_36 : decode cX12_follow 36 = .ok (.invokevirtual 584, 3) := by decide +kernel
theorem dX12_follow_39 : decode cX12_follow 39 = .ok (.istore_n 1, 1) := by decide +kernel
theorem dX12_follow_40 : decode cX12_follow 40 = .ok (.iload_n 1, 1) := by decide +kernel
theorem dX12_follow_41 : decode cX12_follow 41 = .ok (.ifCond .le 5, 3) := by decide +kernel
theorem dX12_follow_44 : decode cX12_follow 44 = .ok (.iload_n 1, 1) := by decide +kernel
theorem dX12_follow_45 : decode cX12_follow 45 = .ok (.ireturn, 1) := by decide +kernel
theorem dX12_follow_46 : decode cX12_follow 46 = .ok (.aload_n 0, 1) := by decide +kernel
theorem dX12_follow_47 : decode cX12_follow 47 = .ok (.invokevirtual 588, 3) := by decide +kernel
theorem dX12_follow_50 : decode cX12_follow 50 = .ok (.aload_n 0, 1) := by decide +kernel
theorem dX12_follow_51 : decode cX12_follow 51 = .ok (.dup, 1) := by decide +kernel
theorem dX12_follow_52 : decode cX12_follow 52 = .ok (.getfield 671, 3) := by decide +kernel
theorem dX12_follow_55 : decode cX12_follow 55 = .ok (.iconst 1, 1) := by decide +kernel
theorem dX12_follow_56 : decode cX12_follow 56 = .ok (.iadd, 1) := by decide +kernel
theorem dX12_follow_57 : decode cX12_follow 57 = .ok (.putfield 671, 3) := by decide +kernel
theorem dX12_follow_60 : decode cX12_follow 60 = .ok (.iconst 0, 1) := by decide +kernel
theorem dX12_follow_61 : decode cX12_follow 61 = .ok (.ireturn, 1) := by decide +kernel
abbrev rm_p_X12_follow : Room := { frames := 0, cells := 0, slots := 0, locals := 0 }
set_option maxHeartbeats 4000000 in
set_option maxRecDepth 100000 in
theorem p_X12_follow (l : Launch) (E : cE) (h0 : Nat) (r : Nat → Nat) (g : Nat → Value) (gx : Nat → Int32) (gy : Nat → Int32) (gw : Nat → Int32) (gt : Nat → Int32) (fx : Nat → Int32) (fy : Nat → Int32) (fw : Nat → Int32) (bx : Nat → Int32) (by_ : Nat → Int32) (bw : Nat → Int32) (hR : mOK r g) (hI : ∀ k, k < 116 → mRef k = false → g k = mI k) (hm1 : flo (stC 0) (2 * 4) gx gy gw) (hm2 : ∀ d, d < 2 * 4 → gt d = 0) (hm3 : ∀ d, d < 2 * 4 → fx d = gx d ∧ fy d = gy d ∧ fw d = gw d) (hm4 : ∀ d, d < 2 * 4 → bx d = gx d ∧ by_ d = gy d ∧ bw d = gw d) : cM l E yX12_follow cX12_follow 2 (some .int) rm_p_X12_follow [.ref h0] [(h0, ob 12 (mfs g))] (qI E (fun (r : Int32) (_u : Unit) => r = (-1)) (fun _ => [])) := by
  refine cM_of (by decide) (Nat.le_of_ble_eq_true rfl) ?_
  intro p e s m below meth c ls A F hA hS hP hD hK hZ hl
  obtain ⟨hx, hb, hr, hml, hown, hts, hlk, hin⟩ := id F
  have hown : s.vm.findClass RX12 = some m.cls := hown
  have hl : lv_has ls 2 [(0, .ref h0)] := hl
  refine lv_aload_n hx hb dX12_follow_0 rfl (lv_at hl 0 rfl) ?_
  refine va_get (D := E.1) (ci := 12) (v := .int 0) (C := RX12) (T := TX12) (N := 116) hx hb hts iX12 hown hK hP 0 rfl rfl 102 (by decide) (hts _ wdF_RX12_671) (fun _ h9 => h9) ((mfs_get _ 102 (by decide)).trans (congrArg some (show (g) 102 = .int 0 from (hI 102 (by decide) rfl)))) dX12_follow_1 ?_
  refine lv_aload_n hx hb dX12_follow_4 rfl (lv_at hl 0 rfl) ?_
  refine va_get (D := E.1) (ci := 12) (v := .int (-1)) (C := RX12) (T := TX12) (N := 116) hx hb hts iX12 hown hK hP 0 rfl rfl 101 (by decide) (hts _ wdF_RX12_196) (fun _ h9 => h9) ((mfs_get _ 101 (by decide)).trans (congrArg some (show (g) 101 = .int (-1) from (hI 101 (by decide) rfl)))) dX12_follow_5 ?_
  refine lv_icmp_lt (tgt := 13) hx hb dX12_follow_8 (by decide) (fun c_326 => absurd c_326 (by decide)) (fun c_326 => ?_)
  refine lv_iconst (v := (-1)) hx hb dX12_follow_11 (by decide) ?_
  exact cI_ret F hP hD hS hK () rfl [] rfl rfl dX12_follow_12 (by decide) (by decide)
theorem yy_X12_follow : cY yX12_follow cX12_follow 2 (some .int) 0 := ⟨wdK_X12_follow, wdZ_RX12, by decide +kernel⟩
theorem yi_X12_follow : cYi yX12_follow := ⟨wdN_X12_follow, wdS_X12_follow⟩
theorem dX12_rows_0 : decode cX12_rows 0 = .ok (.aload_n 0, 1) := by decide +kernel
theorem dX12_rows_1 : decode cX12_rows 1 = .ok (.getfield 248, 3) := by decide +kernel
theorem dX12_rows_4 : decode cX12_rows 4 = .ok (.lreturn, 1) := by decide +kernel
abbrev rm_p_X12_rows : Room := { frames := 0, cells := 0, slots := 0, locals := 0 }
set_option maxHeartbeats 4000000 in
set_option maxRecDepth 100000 in
theorem p_X12_rows (l : Launch) (E : cE) (h0 : Nat) (r : Nat → Nat) (g : Nat → Value) (gx : Nat → Int32) (gy : Nat → Int32) (gw : Nat → Int32) (gt : Nat → Int32) (fx : Nat → Int32) (fy : Nat → Int32) (fw : Nat → Int32) (bx : Nat → Int32) (by_ : Nat → Int32) (bw : Nat → Int32) (hR : mOK r g) (hI : ∀ k, k < 116 → mRef k = false → g k = mI k) (hm1 : flo (stC 0) (2 * 4) gx gy gw) (hm2 : ∀ d, d < 2 * 4 → gt d = 0) (hm3 : ∀ d, d < 2 * 4 → fx d = gx d ∧ fy d = gy d ∧ fw d = gw d) (hm4 : ∀ d, d < 2 * 4 → bx d = gx d ∧ by_ d = gy d ∧ bw d = gw d) : cM l E yX12_rows cX12_rows 1 (some .long) rm_p_X12_rows [.ref h0] [(h0, ob 12 (mfs g))] (qL E (fun (r : Int64) (_u : Unit) => r = 0) (fun _ => [])) := by
  refine cM_of (by decide) (Nat.le_of_ble_eq_true rfl) ?_
  intro p e s m below meth c ls A F hA hS hP hD hK hZ hl
  obtain ⟨hx, hb, hr, hml, hown, hts, hlk, hin⟩ := id F
  have hown : s.vm.findClass RX12 = some m.cls := hown
  have hl : lv_has ls 1 [(0, .ref h0)] := hl
  refine lv_aload_n hx hb dX12_rows_0 rfl (lv_at hl 0 rfl) ?_
  refine va_get (D := E.1) (ci := 12) (v := .long 0) (C := RX12) (T := TX12) (N := 116) hx hb hts iX12 hown hK hP 0 rfl rfl 100 (by decide) (hts _ wdF_RX12_248) (fun _ h9 => h9) ((mfs_get _ 100 (by decide)).trans (congrArg some (show (g) 100 = .long 0 from (hI 100 (by decide) rfl)))) dX12_rows_1 ?_
  exact cL_ret F hP hD hS hK () rfl [] rfl rfl dX12_rows_4 (by decide) (by decide)
theorem yy_X12_rows : cY yX12_rows cX12_rows 1 (some .long) 0 := ⟨wdK_X12_rows, wdZ_RX12, by decide +kernel⟩
theorem yi_X12_rows : cYi yX12_rows := ⟨wdN_X12_rows, wdS_X12_rows⟩
theorem i2l_neg {v : Int32} (h : v.toInt64 < 0) : v < 0 := by
  rw [Int32.lt_iff_toInt_lt]
  have h2 := Int64.lt_iff_toInt_lt.mp h
  rw [Int32.toInt_toInt64] at h2
  simpa using h2
theorem dX12_row_0 : decode cX12_row 0 = .ok (.iload_n 1, 1) := by decide +kernel
theorem dX12_row_1 : decode cX12_row 1 = .ok (.ifCond .lt 13, 3) := by decide +kernel
theorem dX12_row_4 : decode cX12_row 4 = .ok (.iload_n 1, 1) := by decide +kernel
theorem dX12_row_5 : decode cX12_row 5 = .ok (.i2l, 1) := by decide +kernel
theorem dX12_row_6 : decode cX12_row 6 = .ok (.aload_n 0, 1) := by decide +kernel
theorem dX12_row_7 : decode cX12_row 7 = .ok (.getfield 248, 3) := by decide +kernel
theorem dX12_row_10 : decode cX12_row 10 = .ok (.lcmp, 1) := by decide +kernel
theorem dX12_row_11 : decode cX12_row 11 = .ok (.ifCond .lt 5, 3) := by decide +kernel
theorem dX12_row_14 : decode cX12_row 14 = .ok (.iconst 0, 1) := by decide +kernel
theorem dX12_row_15 : decode cX12_row 15 = .ok (.ireturn, 1) := by decide +kernel
theorem dX12_row_16 : decode cX12_row 16 = .ok (.aload_n 0, 1) := by decide +kernel
theorem dX12_row_17 : decode cX12_row 17 = .ok (.iload_n 1, 1) := by decide +kernel
theorem dX12_row_18 : decode cX12_row 18 = .ok (.i2l, 1) := by decide +kernel
theorem dX12_row_19 : decode cX12_row 19 = .ok (.invokevirtual 674, 3) := by decide +kernel
theorem dX12_row_22 : decode cX12_row 22 = .ok (.iconst 1, 1) := by decide +kernel
theorem dX12_row_23 : decode cX12_row 23 = .ok (.ireturn, 1) := by decide +kernel
abbrev rm_p_X12_row : Room := { frames := 0, cells := 0, slots := 0, locals := 0 }
set_option maxHeartbeats 4000000 in
set_option maxRecDepth 100000 in
theorem p_X12_row (l : Launch) (E : cE) (h0 : Nat) (r : Nat → Nat) (g : Nat → Value) (gx : Nat → Int32) (gy : Nat → Int32) (gw : Nat → Int32) (gt : Nat → Int32) (fx : Nat → Int32) (fy : Nat → Int32) (fw : Nat → Int32) (bx : Nat → Int32) (by_ : Nat → Int32) (bw : Nat → Int32) (v : Int32) (hR : mOK r g) (hI : ∀ k, k < 116 → mRef k = false → g k = mI k) (hm1 : flo (stC 0) (2 * 4) gx gy gw) (hm2 : ∀ d, d < 2 * 4 → gt d = 0) (hm3 : ∀ d, d < 2 * 4 → fx d = gx d ∧ fy d = gy d ∧ fw d = gw d) (hm4 : ∀ d, d < 2 * 4 → bx d = gx d ∧ by_ d = gy d ∧ bw d = gw d) : cM l E yX12_row cX12_row 2 (some .boolean) rm_p_X12_row [.ref h0, .int v] [(h0, ob 12 (mfs g))] (qI E (fun (r : Int32) (_u : Unit) => r = 0) (fun _ => [])) := by
  refine cM_of (by decide) (Nat.le_of_ble_eq_true rfl) ?_
  intro p e s m below meth c ls A F hA hS hP hD hK hZ hl
  obtain ⟨hx, hb, hr, hml, hown, hts, hlk, hin⟩ := id F
  have hown : s.vm.findClass RX12 = some m.cls := hown
  have hl : lv_has ls 2 [(0, .ref h0), (1, .int v)] := hl
  refine lv_iload_n hx hb dX12_row_0 rfl (lv_at hl 1 rfl) ?_
  refine lv_if_lt (tgt := 14) hx hb dX12_row_1 (by decide) (fun c1 => ?_) (fun c1 => ?_)
  · refine lv_iconst (v := nI 0) hx hb dX12_row_14 (by decide) ?_
    exact cB_ret F hP hD hS hK (by decide) () rfl [] rfl rfl dX12_row_15 (by decide) (by decide)
  · refine lv_iload_n hx hb dX12_row_4 rfl (lv_at hl 1 rfl) ?_
    refine lv_i2l hx hb dX12_row_5 rfl ?_
    refine lv_aload_n hx hb dX12_row_6 rfl (lv_at hl 0 rfl) ?_
    refine va_get (D := E.1) (ci := 12) (v := .long 0) (C := RX12) (T := TX12) (N := 116) hx hb hts iX12 hown hK hP 0 rfl rfl 100 (by decide) (hts _ wdF_RX12_248) (fun _ h9 => h9) ((mfs_get _ 100 (by decide)).trans (congrArg some (show (g) 100 = .long 0 from (hI 100 (by decide) rfl)))) dX12_row_7 ?_
    refine W.lcmp hx hb dX12_row_10 ?_
    refine lv_if_lt (tgt := 16) hx hb dX12_row_11 (by decide) (fun c_327 => absurd c_327 (fun h => absurd (by have h2 := (lg_cmp_lt _ _).mp h; exact i2l_neg h2) c1)) (fun c_327 => ?_)
    refine lv_iconst (v := nI 0) hx hb dX12_row_14 (by decide) ?_
    exact cB_ret F hP hD hS hK (by decide) () rfl [] rfl rfl dX12_row_15 (by decide) (by decide)
theorem yy_X12_row : cY yX12_row cX12_row 2 (some .boolean) 1 := ⟨wdK_X12_row, wdZ_RX12, by decide +kernel⟩
theorem yi_X12_row : cYi yX12_row := ⟨wdN_X12_row, wdS_X12_row⟩
theorem dX12_end_0 : decode cX12_end 0 = .ok (.iload_n 1, 1) := by decide +kernel
theorem dX12_end_1 : decode cX12_end 1 = .ok (.ifCond .lt 11, 3) := by decide +kernel
theorem dX12_end_4 : decode cX12_end 4 = .ok (.iload_n 1, 1) := by decide +kernel
theorem dX12_end_5 : decode cX12_end 5 = .ok (.aload_n 0, 1) := by decide +kernel
theorem dX12_end_6 : decode cX12_end 6 = .ok (.getfield 258, 3) := by decide +kernel
theorem dX12_end_9 : decode cX12_end 9 = .ok (.if_icmp .le 5, 3) := by decide +kernel
theorem dX12_end_12 : decode cX12_end 12 = .ok (.iconst 0, 1) := by decide +kernel
theorem dX12_end_13 : decode cX12_end 13 = .ok (.ireturn, 1) := by decide +kernel
theorem dX12_end_14 : decode cX12_end 14 = .ok (.aload_n 0, 1) := by decide +kernel
theorem dX12_end_15 : decode cX12_end 15 = .ok (.iload_n 1, 1) := by decide +kernel
theorem dX12_end_16 : decode cX12_end 16 = .ok (.putfield 258, 3) := by decide +kernel
theorem dX12_end_19 : decode cX12_end 19 = .ok (.iconst 1, 1) := by decide +kernel
theorem dX12_end_20 : decode cX12_end 20 = .ok (.ireturn, 1) := by decide +kernel
abbrev rm_p_X12_end : Room := { frames := 0, cells := 0, slots := 0, locals := 0 }
set_option maxHeartbeats 4000000 in
set_option maxRecDepth 100000 in
theorem p_X12_end (l : Launch) (E : cE) (h0 : Nat) (r : Nat → Nat) (g : Nat → Value) (gx : Nat → Int32) (gy : Nat → Int32) (gw : Nat → Int32) (gt : Nat → Int32) (fx : Nat → Int32) (fy : Nat → Int32) (fw : Nat → Int32) (bx : Nat → Int32) (by_ : Nat → Int32) (bw : Nat → Int32) (v : Int32) (hR : mOK r g) (hI : ∀ k, k < 116 → mRef k = false → g k = mI k) (hm1 : flo (stC 0) (2 * 4) gx gy gw) (hm2 : ∀ d, d < 2 * 4 → gt d = 0) (hm3 : ∀ d, d < 2 * 4 → fx d = gx d ∧ fy d = gy d ∧ fw d = gw d) (hm4 : ∀ d, d < 2 * 4 → bx d = gx d ∧ by_ d = gy d ∧ bw d = gw d) : cM l E yX12_end cX12_end 2 (some .boolean) rm_p_X12_end [.ref h0, .int v] [(h0, ob 12 (mfs g))] (qI E (fun (r : Int32) (_u : Unit) => r = if v = 0 then 1 else 0) (fun _ => [])) := by
  refine cM_of (by decide) (Nat.le_of_ble_eq_true rfl) ?_
  intro p e s m below meth c ls A F hA hS hP hD hK hZ hl
  obtain ⟨hx, hb, hr, hml, hown, hts, hlk, hin⟩ := id F
  have hown : s.vm.findClass RX12 = some m.cls := hown
  have hl : lv_has ls 2 [(0, .ref h0), (1, .int v)] := hl
  refine lv_iload_n hx hb dX12_end_0 rfl (lv_at hl 1 rfl) ?_
  refine lv_if_lt (tgt := 12) hx hb dX12_end_1 (by decide) (fun c1 => ?_) (fun c1 => ?_)
  · refine lv_iconst (v := nI 0) hx hb dX12_end_12 (by decide) ?_
    exact cB_ret F hP hD hS hK (by decide) () (if_neg (fun e => absurd c1 (by rw [e]; decide))).symm [] rfl rfl dX12_end_13 (by decide) (by decide)
  · refine lv_iload_n hx hb dX12_end_4 rfl (lv_at hl 1 rfl) ?_
    refine lv_aload_n hx hb dX12_end_5 rfl (lv_at hl 0 rfl) ?_
    refine va_get (D := E.1) (ci := 12) (v := .int 0) (C := RX12) (T := TX12) (N := 116) hx hb hts iX12 hown hK hP 0 rfl rfl 1 (by decide) (hts _ wdF_RX12_258) (fun _ h9 => h9) ((mfs_get _ 1 (by decide)).trans (congrArg some (show (g) 1 = .int 0 from (hI 1 (by decide) rfl)))) dX12_end_6 ?_
    refine lv_icmp_le (tgt := 14) hx hb dX12_end_9 (by decide) (fun c2 => ?_) (fun c2 => ?_)
    · refine lv_aload_n hx hb dX12_end_14 rfl (lv_at hl 0 rfl) ?_
      refine lv_iload_n hx hb dX12_end_15 rfl (lv_at hl 1 rfl) ?_
      refine va_put (D := E.1) (ci := 12) (v := .int v) (ty := .int) (C := RX12) (T := TX12) (N := 116) hx hb hts iX12 tyX12 tyX12_ok nmX12 hown hK hP hD hS 0 rfl rfl 1 (by decide) (hts _ wdF_RX12_258) (fun _ h9 => h9) rfl (by decide +kernel) rfl rfl (by rw [mfs_len]; decide) dX12_end_16 (fun H locs hP hD hS => ?_)
      have hP : va_P E.1 vwCl [(h0, ob 12 ((mfs g).set 1 (.int v)))] H := hP
      have hD : va_D A [(h0, ob 12 ((mfs g).set 1 (.int v)))] := hD
      rw [mfs_set _ 1 _ (by decide)] at hP hD
      refine lv_iconst (v := nI 1) hx hb dX12_end_19 (by decide) ?_
      exact cB_ret F hP hD hS hK (by decide) () (if_pos (Int32.le_antisymm c2 (Int32.not_lt.mp c1))).symm [] rfl rfl dX12_end_20 (by decide) (by decide)
    · refine lv_iconst (v := nI 0) hx hb dX12_end_12 (by decide) ?_
      exact cB_ret F hP hD hS hK (by decide) () (if_neg (fun e => c2 (by rw [e]; decide))).symm [] rfl rfl dX12_end_13 (by decide) (by decide)
theorem yy_X12_end : cY yX12_end cX12_end 2 (some .boolean) 1 := ⟨wdK_X12_end, wdZ_RX12, by decide +kernel⟩
theorem yi_X12_end : cYi yX12_end := ⟨wdN_X12_end, wdS_X12_end⟩
theorem dX12_failed_0 : decode cX12_failed 0 = .ok (.iload_n 1, 1) := by decide +kernel
theorem dX12_failed_1 : decode cX12_failed 1 = .ok (.ifCond .ne 10, 3) := by decide +kernel
theorem dX12_failed_4 : decode cX12_failed 4 = .ok (.aload_n 0, 1) := by decide +kernel
theorem dX12_failed_5 : decode cX12_failed 5 = .ok (.getfield 134, 3) := by decide +kernel
theorem dX12_failed_8 : decode cX12_failed 8 = .ok (.goto 28, 3) := by decide +kernel
theorem dX12_failed_11 : decode cX12_failed 11 = .ok (.iload_n 1, 1) := by decide +kernel
theorem dX12_failed_12 : decode cX12_failed 12 = .ok (.iconst 1, 1) := by decide +kernel
theorem dX12_failed_13 : decode cX12_failed 13 = .ok (.if_icmp .ne 10, 3) := by decide +kernel
theorem dX12_failed_16 : decode cX12_failed 16 = .ok (.aload_n 0, 1) := by decide +kernel
theorem dX12_failed_17 : decode cX12_failed 17 = .ok (.getfield 138, 3) := by decide +kernel
theorem dX12_failed_20 : decode cX12_failed 20 = .ok (.goto 16, 3) := by decide +kernel
theorem dX12_failed_23 : decode cX12_failed 23 = .ok (.iload_n 1, 1) := by decide +kernel
theorem dX12_failed_24 : decode cX12_failed 24 = .ok (.iconst 2, 1) := by decide +kernel
theorem dX12_failed_25 : decode cX12_failed 25 = .ok (.if_icmp .ne 10, 3) := by decide +kernel
theorem dX12_failed_28 : decode cX12_failed 28 = .ok (.aload_n 0, 1) := by decide +kernel
theorem dX12_failed_29 : decode cX12_failed 29 = .ok (.getfield 141, 3) := by decide +kernel
theorem dX12_failed_32 : decode cX12_failed 32 = .ok (.goto 4, 3) := by decide +kernel
theorem dX12_failed_35 : decode cX12_failed 35 = .ok (.iconst (-1), 1) := by decide +kernel
theorem dX12_failed_36 : decode cX12_failed 36 = .ok (.ireturn, 1) := by decide +kernel
abbrev rm_p_X12_failed : Room := { frames := 0, cells := 0, slots := 0, locals := 0 }
set_option maxHeartbeats 4000000 in
set_option maxRecDepth 100000 in
theorem p_X12_failed (l : Launch) (E : cE) (h0 : Nat) (r : Nat → Nat) (g : Nat → Value) (gx : Nat → Int32) (gy : Nat → Int32) (gw : Nat → Int32) (gt : Nat → Int32) (fx : Nat → Int32) (fy : Nat → Int32) (fw : Nat → Int32) (bx : Nat → Int32) (by_ : Nat → Int32) (bw : Nat → Int32) (v : Int32) (hR : mOK r g) (hI : ∀ k, k < 116 → mRef k = false → g k = mI k) (hm1 : flo (stC 0) (2 * 4) gx gy gw) (hm2 : ∀ d, d < 2 * 4 → gt d = 0) (hm3 : ∀ d, d < 2 * 4 → fx d = gx d ∧ fy d = gy d ∧ fw d = gw d) (hm4 : ∀ d, d < 2 * 4 → bx d = gx d ∧ by_ d = gy d ∧ bw d = gw d) : cM l E yX12_failed cX12_failed 2 (some .int) rm_p_X12_failed [.ref h0, .int v] [(h0, ob 12 (mfs g))] (qI E (fun (r : Int32) (_u : Unit) => r = -1) (fun _ => [])) := by
  refine cM_of (by decide) (Nat.le_of_ble_eq_true rfl) ?_
  intro p e s m below meth c ls A F hA hS hP hD hK hZ hl
  obtain ⟨hx, hb, hr, hml, hown, hts, hlk, hin⟩ := id F
  have hown : s.vm.findClass RX12 = some m.cls := hown
  have hl : lv_has ls 2 [(0, .ref h0), (1, .int v)] := hl
  refine lv_iload_n hx hb dX12_failed_0 rfl (lv_at hl 1 rfl) ?_
  refine lv_if_ne (tgt := 11) hx hb dX12_failed_1 (by decide) (fun c_328 => ?_) (fun c_328 => ?_)
  · refine lv_iload_n hx hb dX12_failed_11 rfl (lv_at hl 1 rfl) ?_
    refine lv_iconst (v := nI 1) hx hb dX12_failed_12 (by decide) ?_
    refine lv_icmp_ne (tgt := 23) hx hb dX12_failed_13 (by decide) (fun c_329 => ?_) (fun c_329 => ?_)
    · refine lv_iload_n hx hb dX12_failed_23 rfl (lv_at hl 1 rfl) ?_
      refine lv_iconst (v := nI 2) hx hb dX12_failed_24 (by decide) ?_
      refine lv_icmp_ne (tgt := 35) hx hb dX12_failed_25 (by decide) (fun c_330 => ?_) (fun c_330 => ?_)
      · refine lv_iconst (v := (-1)) hx hb dX12_failed_35 (by decide) ?_
        exact cI_ret F hP hD hS hK () rfl [] rfl rfl dX12_failed_36 (by decide) (by decide)
      · refine lv_aload_n hx hb dX12_failed_28 rfl (lv_at hl 0 rfl) ?_
        refine va_get (D := E.1) (ci := 12) (v := .int (-1)) (C := RX12) (T := TX12) (N := 116) hx hb hts iX12 hown hK hP 0 rfl rfl 69 (by decide) (hts _ wdF_RX12_141) (fun _ h9 => h9) ((mfs_get _ 69 (by decide)).trans (congrArg some (show (g) 69 = .int (-1) from (hI 69 (by decide) rfl)))) dX12_failed_29 ?_
        refine lv_goto (tgt := 36) hx hb dX12_failed_32 (by decide) ?_
        exact cI_ret F hP hD hS hK () rfl [] rfl rfl dX12_failed_36 (by decide) (by decide)
    · refine lv_aload_n hx hb dX12_failed_16 rfl (lv_at hl 0 rfl) ?_
      refine va_get (D := E.1) (ci := 12) (v := .int (-1)) (C := RX12) (T := TX12) (N := 116) hx hb hts iX12 hown hK hP 0 rfl rfl 68 (by decide) (hts _ wdF_RX12_138) (fun _ h9 => h9) ((mfs_get _ 68 (by decide)).trans (congrArg some (show (g) 68 = .int (-1) from (hI 68 (by decide) rfl)))) dX12_failed_17 ?_
      refine lv_goto (tgt := 36) hx hb dX12_failed_20 (by decide) ?_
      exact cI_ret F hP hD hS hK () rfl [] rfl rfl dX12_failed_36 (by decide) (by decide)
  · refine lv_aload_n hx hb dX12_failed_4 rfl (lv_at hl 0 rfl) ?_
    refine va_get (D := E.1) (ci := 12) (v := .int (-1)) (C := RX12) (T := TX12) (N := 116) hx hb hts iX12 hown hK hP 0 rfl rfl 67 (by decide) (hts _ wdF_RX12_134) (fun _ h9 => h9) ((mfs_get _ 67 (by decide)).trans (congrArg some (show (g) 67 = .int (-1) from (hI 67 (by decide) rfl)))) dX12_failed_5 ?_
    refine lv_goto (tgt := 36) hx hb dX12_failed_8 (by decide) ?_
    exact cI_ret F hP hD hS hK () rfl [] rfl rfl dX12_failed_36 (by decide) (by decide)
theorem yy_X12_failed : cY yX12_failed cX12_failed 2 (some .int) 1 := ⟨wdK_X12_failed, wdZ_RX12, by decide +kernel⟩
theorem yi_X12_failed : cYi yX12_failed := ⟨wdN_X12_failed, wdS_X12_failed⟩
theorem dX12_begin_0 : decode cX12_begin 0 = .ok (.iload_n 1, 1) := by decide +kernel
theorem dX12_begin_1 : decode cX12_begin 1 = .ok (.iconst 0, 1) := by decide +kernel
theorem dX12_begin_2 : decode cX12_begin 2 = .ok (.aload_n 0, 1) := by decide +kernel
theorem dX12_begin_3 : decode cX12_begin 3 = .ok (.getfield 386, 3) := by decide +kernel
theorem dX12_begin_6 : decode cX12_begin 6 = .ok (.iconst 1, 1) := by decide +kernel
theorem dX12_begin_7 : decode cX12_begin 7 = .ok (.isub, 1) := by decide +kernel
theorem dX12_begin_8 : decode cX12_begin 8 = .ok (.invokestatic 227, 3) := by decide +kernel
theorem dX12_begin_11 : decode cX12_begin 11 = .ok (.ifCond .ne 5, 3) := by decide +kernel
theorem dX12_begin_14 : decode cX12_begin 14 = .ok (.iconst 0, 1) := by decide +kernel
theorem dX12_begin_15 : decode cX12_begin 15 = .ok (.ireturn, 1) := by decide +kernel
theorem dX12_begin_16 : decode cX12_begin 16 = .ok (.aload_n 0, 1) := by decide +kernel
theorem dX12_begin_17 : decode cX12_begin 17 = .ok (.iconst 1, 1) := by decide +kernel
theorem dX12_begin_18 : decode cX12_begin 18 = .ok (.putfield 241, 3) := by decide +kernel
theorem dX12_begin_21 : decode cX12_begin 21 = .ok (.aload_n 0, 1) := by decide +kernel
theorem dX12_begin_22 : decode cX12_begin 22 = .ok (.iload_n 1, 1) := by decide +kernel
theorem dX12_begin_23 : decode cX12_begin 23 = .ok (.invokevirtual 595, 3) := by decide +kernel
theorem dX12_begin_26 : decode cX12_begin 26 = .ok (.iconst 1, 1) := by decide +kernel
theorem dX12_begin_27 : decode cX12_begin 27 = .ok (.ireturn, 1) := by decide +kernel
abbrev rm_p_X12_begin : Room := { frames := 1, cells := 0, slots := 0, locals := 22 }
set_option maxHeartbeats 4000000 in
set_option maxRecDepth 100000 in
theorem p_X12_begin (l : Launch) (E : cE) (h0 : Nat) (r : Nat → Nat) (g : Nat → Value) (gx : Nat → Int32) (gy : Nat → Int32) (gw : Nat → Int32) (gt : Nat → Int32) (fx : Nat → Int32) (fy : Nat → Int32) (fw : Nat → Int32) (bx : Nat → Int32) (by_ : Nat → Int32) (bw : Nat → Int32) (v : Int32) (hR : mOK r g) (hI : ∀ k, k < 116 → mRef k = false → g k = mI k) (hm1 : flo (stC 0) (2 * 4) gx gy gw) (hm2 : ∀ d, d < 2 * 4 → gt d = 0) (hm3 : ∀ d, d < 2 * 4 → fx d = gx d ∧ fy d = gy d ∧ fw d = gw d) (hm4 : ∀ d, d < 2 * 4 → bx d = gx d ∧ by_ d = gy d ∧ bw d = gw d) : cM l E yX12_begin cX12_begin 2 (some .boolean) rm_p_X12_begin [.ref h0, .int v] [(h0, ob 12 (mfs g))] (qI E (fun (r : Int32) (_u : Unit) => r = 0) (fun _ => [])) := by
  refine cM_of (by decide) (Nat.le_of_ble_eq_true rfl) ?_
  intro p e s m below meth c ls A F hA hS hP hD hK hZ hl
  obtain ⟨hx, hb, hr, hml, hown, hts, hlk, hin⟩ := id F
  have hown : s.vm.findClass RX12 = some m.cls := hown
  have hl : lv_has ls 2 [(0, .ref h0), (1, .int v)] := hl
  refine lv_iload_n hx hb dX12_begin_0 rfl (lv_at hl 1 rfl) ?_
  refine lv_iconst (v := nI 0) hx hb dX12_begin_1 (by decide) ?_
  refine lv_aload_n hx hb dX12_begin_2 rfl (lv_at hl 0 rfl) ?_
  refine va_get (D := E.1) (ci := 12) (v := .int 0) (C := RX12) (T := TX12) (N := 116) hx hb hts iX12 hown hK hP 0 rfl rfl 16 (by decide) (hts _ wdF_RX12_386) (fun _ h9 => h9) ((mfs_get _ 16 (by decide)).trans (congrArg some (show (g) 16 = .int 0 from (hI 16 (by decide) rfl)))) dX12_begin_3 ?_
  refine lv_iconst (v := nI 1) hx hb dX12_begin_6 (by decide) ?_
  refine lv_isub hx hb dX12_begin_7 ?_
  rw [show (0 - (nI 1) : Int32) = (-1) from by decide]
  refine cI_go (wr := [(h0, ob 12 (mfs g))]) (cM_runS (As := [.int v, .int (nI 0), .int (-1)]) (rest := []) F (c_X12_in l E v (nI 0) (-1)) yy_X12_in wdT_X12_in wdM_RX12_227 hP hD hS hK hZ hA [] rfl rfl rfl hl.1 rfl (Nat.le_of_ble_eq_true rfl) dX12_begin_8 ⟨by decide, by decide⟩ ⟨by decide, by decide⟩) hP hD hS hA [] [0] rfl rfl rfl (by decide) (fun r_333 u_332 H locs hw_331 hP hD hS => ?_)
  try dsimp only at hw_331
  have hP : va_P E.1 vwCl [(h0, ob 12 (mfs g))] H := hP
  have hD : va_D A [(h0, ob 12 (mfs g))] := hD
  rw [if_neg (fun h => absurd (Int32.le_trans h.1 h.2) (by decide))] at hw_331
  subst hw_331
  refine lv_if_ne (tgt := 16) hx hb dX12_begin_11 (by decide) (fun c_334 => absurd (by decide) c_334) (fun c_334 => ?_)
  refine lv_iconst (v := nI 0) hx hb dX12_begin_14 (by decide) ?_
  exact cB_ret F hP hD hS hK (by decide) () rfl [] rfl rfl dX12_begin_15 (by decide) (by decide)
theorem yy_X12_begin : cY yX12_begin cX12_begin 2 (some .boolean) 1 := ⟨wdK_X12_begin, wdZ_RX12, by decide +kernel⟩
theorem yi_X12_begin : cYi yX12_begin := ⟨wdN_X12_begin, wdS_X12_begin⟩
theorem dX12_may_0 : decode cX12_may 0 = .ok (.iload_n 1, 1) := by decide +kernel
theorem dX12_may_1 : decode cX12_may 1 = .ok (.iconst 0, 1) := by decide +kernel
theorem dX12_may_2 : decode cX12_may 2 = .ok (.aload_n 0, 1) := by decide +kernel
theorem dX12_may_3 : decode cX12_may 3 = .ok (.getfield 392, 3) := by decide +kernel
theorem dX12_may_6 : decode cX12_may 6 = .ok (.iconst 1, 1) := by decide +kernel
theorem dX12_may_7 : decode cX12_may 7 = .ok (.isub, 1) := by decide +kernel
theorem dX12_may_8 : decode cX12_may 8 = .ok (.invokestatic 227, 3) := by decide +kernel
theorem dX12_may_11 : decode cX12_may 11 = .ok (.ifCond .ne 5, 3) := by decide +kernel
theorem dX12_may_14 : decode cX12_may 14 = .ok (.iconst (-1), 1) := by decide +kernel
theorem dX12_may_15 : decode cX12_may 15 = .ok (.ireturn, 1) := by decide +kernel
theorem dX12_may_16 : decode cX12_may 16 = .ok (.aload_n 0, 1) := by decide +kernel
theorem dX12_may_17 : decode cX12_may 17 = .ok (.aload_n 0, 1) := by decide +kernel
theorem dX12_may_18 : decode cX12_may 18 = .ok (.getfield 62, 3) := by decide +kernel
theorem dX12_may_21 : decode cX12_may 21 = .ok (.iload_n 1, 1) := by decide +kernel
theorem dX12_may_22 : decode cX12_may 22 = .ok (.iaload, 1) := by decide +kernel
theorem dX12_may_23 : decode cX12_may 23 = .ok (.aload_n 0, 1) := by decide +kernel
theorem dX12_may_24 : decode cX12_may 24 = .ok (.invokevirtual 580, 3) := by decide +kernel
theorem dX12_may_27 : decode cX12_may 27 = .ok (.invokevirtual 559, 3) := by decide +kernel
theorem dX12_may_30 : decode cX12_may 30 = .ok (.ifCond .eq 5, 3) := by decide +kernel
theorem dX12_may_33 : decode cX12_may 33 = .ok (.iconst 0, 1) := by decide +kernel
theorem dX12_may_34 : decode cX12_may 34 = .ok (.ireturn, 1) := by decide +kernel
theorem dX12_may_35 : decode cX12_may 35 = .ok (.aload_n 0, 1) := by decide +kernel
theorem dX12_may_36 : decode cX12_may 36 = .ok (.invokevirtual 563, 3) := by decide +kernel
theorem dX12_may_39 : decode cX12_may 39 = .ok (.aload_n 0, 1) := by decide +kernel
theorem dX12_may_40 : decode cX12_may 40 = .ok (.getfield 533, 3) := by decide +kernel
theorem dX12_may_43 : decode cX12_may 43 = .ok (.ireturn, 1) := by decide +kernel
abbrev rm_p_X12_may : Room := { frames := 1, cells := 0, slots := 0, locals := 22 }
set_option maxHeartbeats 4000000 in
set_option maxRecDepth 100000 in
theorem p_X12_may (l : Launch) (E : cE) (h0 : Nat) (r : Nat → Nat) (g : Nat → Value) (gx : Nat → Int32) (gy : Nat → Int32) (gw : Nat → Int32) (gt : Nat → Int32) (fx : Nat → Int32) (fy : Nat → Int32) (fw : Nat → Int32) (bx : Nat → Int32) (by_ : Nat → Int32) (bw : Nat → Int32) (v : Int32) (hR : mOK r g) (hI : ∀ k, k < 116 → mRef k = false → g k = mI k) (hm1 : flo (stC 0) (2 * 4) gx gy gw) (hm2 : ∀ d, d < 2 * 4 → gt d = 0) (hm3 : ∀ d, d < 2 * 4 → fx d = gx d ∧ fy d = gy d ∧ fw d = gw d) (hm4 : ∀ d, d < 2 * 4 → bx d = gx d ∧ by_ d = gy d ∧ bw d = gw d) : cM l E yX12_may cX12_may 2 (some .int) rm_p_X12_may [.ref h0, .int v] [(h0, ob 12 (mfs g))] (qI E (fun (r : Int32) (_u : Unit) => r = -1) (fun _ => [])) := by
  refine cM_of (by decide) (Nat.le_of_ble_eq_true rfl) ?_
  intro p e s m below meth c ls A F hA hS hP hD hK hZ hl
  obtain ⟨hx, hb, hr, hml, hown, hts, hlk, hin⟩ := id F
  have hown : s.vm.findClass RX12 = some m.cls := hown
  have hl : lv_has ls 2 [(0, .ref h0), (1, .int v)] := hl
  refine lv_iload_n hx hb dX12_may_0 rfl (lv_at hl 1 rfl) ?_
  refine lv_iconst (v := nI 0) hx hb dX12_may_1 (by decide) ?_
  refine lv_aload_n hx hb dX12_may_2 rfl (lv_at hl 0 rfl) ?_
  refine va_get (D := E.1) (ci := 12) (v := .int 0) (C := RX12) (T := TX12) (N := 116) hx hb hts iX12 hown hK hP 0 rfl rfl 17 (by decide) (hts _ wdF_RX12_392) (fun _ h9 => h9) ((mfs_get _ 17 (by decide)).trans (congrArg some (show (g) 17 = .int 0 from (hI 17 (by decide) rfl)))) dX12_may_3 ?_
  refine lv_iconst (v := nI 1) hx hb dX12_may_6 (by decide) ?_
  refine lv_isub hx hb dX12_may_7 ?_
  rw [show (0 - (nI 1) : Int32) = (-1) from by decide]
  refine cI_go (wr := [(h0, ob 12 (mfs g))]) (cM_runS (As := [.int v, .int (nI 0), .int (-1)]) (rest := []) F (c_X12_in l E v (nI 0) (-1)) yy_X12_in wdT_X12_in wdM_RX12_227 hP hD hS hK hZ hA [] rfl rfl rfl hl.1 rfl (Nat.le_of_ble_eq_true rfl) dX12_may_8 ⟨by decide, by decide⟩ ⟨by decide, by decide⟩) hP hD hS hA [] [0] rfl rfl rfl (by decide) (fun r_337 u_336 H locs hw_335 hP hD hS => ?_)
  try dsimp only at hw_335
  have hP : va_P E.1 vwCl [(h0, ob 12 (mfs g))] H := hP
  have hD : va_D A [(h0, ob 12 (mfs g))] := hD
  rw [if_neg (fun h => absurd (Int32.le_trans h.1 h.2) (by decide))] at hw_335
  subst hw_335
  refine lv_if_ne (tgt := 16) hx hb dX12_may_11 (by decide) (fun c_338 => absurd (by decide) c_338) (fun c_338 => ?_)
  refine lv_iconst (v := (-1)) hx hb dX12_may_14 (by decide) ?_
  exact cI_ret F hP hD hS hK () rfl [] rfl rfl dX12_may_15 (by decide) (by decide)
theorem yy_X12_may : cY yX12_may cX12_may 2 (some .int) 1 := ⟨wdK_X12_may, wdZ_RX12, by decide +kernel⟩
theorem yi_X12_may : cYi yX12_may := ⟨wdN_X12_may, wdS_X12_may⟩
theorem dX12_found_0 : decode cX12_found 0 = .ok (.iload_n 1, 1) := by decide +kernel
theorem dX12_found_1 : decode cX12_found 1 = .ok (.iconst 0, 1) := by decide +kernel
theorem dX12_found_2 : decode cX12_found 2 = .ok (.aload_n 0, 1) := by decide +kernel
theorem dX12_found_3 : decode cX12_found 3 = .ok (.getfield 196, 3) := by decide +kernel
theorem dX12_found_6 : decode cX12_found 6 = .ok (.iconst 1, 1) := by decide +kernel
theorem dX12_found_7 : decode cX12_found 7 = .ok (.isub, 1) := by decide +kernel
theorem dX12_found_8 : decode cX12_found 8 = .ok (.invokestatic 227, 3) := by decide +kernel
theorem dX12_found_11 : decode cX12_found 11 = .ok (.ifCond .eq 12, 3) := by decide +kernel
theorem dX12_found_14 : decode cX12_found 14 = .ok (.aload_n 0, 1) := by decide +kernel
theorem dX12_found_15 : decode cX12_found 15 = .ok (.getfield 199, 3) := by decide +kernel
theorem dX12_found_18 : decode cX12_found 18 = .ok (.iload_n 1, 1) := by decide +kernel
theorem dX12_found_19 : decode cX12_found 19 = .ok (.iaload, 1) := by decide +kernel
theorem dX12_found_20 : decode cX12_found 20 = .ok (.goto 4, 3) := by decide +kernel
theorem dX12_found_23 : decode cX12_found 23 = .ok (.iconst (-1), 1) := by decide +kernel
theorem dX12_found_24 : decode cX12_found 24 = .ok (.ireturn, 1) := by decide +kernel
abbrev rm_p_X12_found : Room := { frames := 1, cells := 0, slots := 0, locals := 22 }
set_option maxHeartbeats 4000000 in
set_option maxRecDepth 100000 in
theorem p_X12_found (l : Launch) (E : cE) (h0 : Nat) (r : Nat → Nat) (g : Nat → Value) (gx : Nat → Int32) (gy : Nat → Int32) (gw : Nat → Int32) (gt : Nat → Int32) (fx : Nat → Int32) (fy : Nat → Int32) (fw : Nat → Int32) (bx : Nat → Int32) (by_ : Nat → Int32) (bw : Nat → Int32) (v : Int32) (hR : mOK r g) (hI : ∀ k, k < 116 → mRef k = false → g k = mI k) (hm1 : flo (stC 0) (2 * 4) gx gy gw) (hm2 : ∀ d, d < 2 * 4 → gt d = 0) (hm3 : ∀ d, d < 2 * 4 → fx d = gx d ∧ fy d = gy d ∧ fw d = gw d) (hm4 : ∀ d, d < 2 * 4 → bx d = gx d ∧ by_ d = gy d ∧ bw d = gw d) : cM l E yX12_found cX12_found 2 (some .int) rm_p_X12_found [.ref h0, .int v] [(h0, ob 12 (mfs g))] (qI E (fun (r : Int32) (_u : Unit) => r = -1) (fun _ => [])) := by
  refine cM_of (by decide) (Nat.le_of_ble_eq_true rfl) ?_
  intro p e s m below meth c ls A F hA hS hP hD hK hZ hl
  obtain ⟨hx, hb, hr, hml, hown, hts, hlk, hin⟩ := id F
  have hown : s.vm.findClass RX12 = some m.cls := hown
  have hl : lv_has ls 2 [(0, .ref h0), (1, .int v)] := hl
  refine lv_iload_n hx hb dX12_found_0 rfl (lv_at hl 1 rfl) ?_
  refine lv_iconst (v := nI 0) hx hb dX12_found_1 (by decide) ?_
  refine lv_aload_n hx hb dX12_found_2 rfl (lv_at hl 0 rfl) ?_
  refine va_get (D := E.1) (ci := 12) (v := .int (-1)) (C := RX12) (T := TX12) (N := 116) hx hb hts iX12 hown hK hP 0 rfl rfl 101 (by decide) (hts _ wdF_RX12_196) (fun _ h9 => h9) ((mfs_get _ 101 (by decide)).trans (congrArg some (show (g) 101 = .int (-1) from (hI 101 (by decide) rfl)))) dX12_found_3 ?_
  refine lv_iconst (v := nI 1) hx hb dX12_found_6 (by decide) ?_
  refine lv_isub hx hb dX12_found_7 ?_
  rw [show ((-1) - (nI 1) : Int32) = (-2) from by decide]
  refine cI_go (wr := [(h0, ob 12 (mfs g))]) (cM_runS (As := [.int v, .int (nI 0), .int (-2)]) (rest := []) F (c_X12_in l E v (nI 0) (-2)) yy_X12_in wdT_X12_in wdM_RX12_227 hP hD hS hK hZ hA [] rfl rfl rfl hl.1 rfl (Nat.le_of_ble_eq_true rfl) dX12_found_8 ⟨by decide, by decide⟩ ⟨by decide, by decide⟩) hP hD hS hA [] [0] rfl rfl rfl (by decide) (fun r_341 u_340 H locs hw_339 hP hD hS => ?_)
  try dsimp only at hw_339
  have hP : va_P E.1 vwCl [(h0, ob 12 (mfs g))] H := hP
  have hD : va_D A [(h0, ob 12 (mfs g))] := hD
  rw [if_neg (fun h => absurd (Int32.le_trans h.1 h.2) (by decide))] at hw_339
  subst hw_339
  refine lv_if_eq (tgt := 23) hx hb dX12_found_11 (by decide) (fun c_342 => ?_) (fun c_342 => absurd (by decide) c_342)
  refine lv_iconst (v := (-1)) hx hb dX12_found_23 (by decide) ?_
  exact cI_ret F hP hD hS hK () rfl [] rfl rfl dX12_found_24 (by decide) (by decide)
theorem yy_X12_found : cY yX12_found cX12_found 2 (some .int) 1 := ⟨wdK_X12_found, wdZ_RX12, by decide +kernel⟩
theorem yi_X12_found : cYi yX12_found := ⟨wdN_X12_found, wdS_X12_found⟩
theorem dX12_times_0 : decode cX12_times 0 = .ok (.iload_n 2, 1) := by decide +kernel
theorem dX12_times_1 : decode cX12_times 1 = .ok (.ifCond .ne 16, 3) := by decide +kernel
theorem dX12_times_4 : decode cX12_times 4 = .ok (.iload_n 3, 1) := by decide +kernel
theorem dX12_times_5 : decode cX12_times 5 = .ok (.iconst 4, 1) := by decide +kernel
theorem dX12_times_6 : decode cX12_times 6 = .ok (.if_icmp .ne 7, 3) := by decide +kernel
theorem dX12_times_9 : decode cX12_times 9 = .ok (.iconst 1, 1) := by decide +kernel
theorem dX12_times_10 : decode cX12_times 10 = .ok (.goto 31, 3) := by decide +kernel
theorem dX12_times_13 : decode cX12_times 13 = .ok (.iconst 0, 1) := by decide +kernel
theorem dX12_times_14 : decode cX12_times 14 = .ok (.goto 27, 3) := by decide +kernel
theorem dX12_times_17 : decode cX12_times 17 = .ok (.iload_n 2, 1) := by decide +kernel
theorem dX12_times_18 : decode cX12_times 18 = .ok (.iconst 1, 1) := by decide +kernel
theorem dX12_times_19 : decode cX12_times 19 = .ok (.iconst 3, 1) := by decide +kernel
theorem dX12_times_20 : decode cX12_times 20 = .ok (.invokestatic 227, 3) := by decide +kernel
theorem dX12_times_23 : decode cX12_times 23 = .ok (.ifCond .eq 17, 3) := by decide +kernel
theorem dX12_times_26 : decode cX12_times 26 = .ok (.iload_n 3, 1) := by decide +kernel
theorem dX12_times_27 : decode cX12_times 27 = .ok (.iconst 1, 1) := by decide +kernel
theorem dX12_times_28 : decode cX12_times 28 = .ok (.bipush 32, 2) := by decide +kernel
theorem dX12_times_30 : decode cX12_times 30 = .ok (.invokestatic 227, 3) := by decide +kernel
theorem dX12_times_33 : decode cX12_times 33 = .ok (.ifCond .eq 7, 3) := by decide +kernel
theorem dX12_times_36 : decode cX12_times 36 = .ok (.iconst 1, 1) := by decide +kernel
theorem dX12_times_37 : decode cX12_times 37 = .ok (.goto 4, 3) := by decide +kernel
theorem dX12_times_40 : decode cX12_times 40 = .ok (.iconst 0, 1) := by decide +kernel
theorem dX12_times_41 : decode cX12_times 41 = .ok (.istore 4, 2) := by decide +kernel
theorem dX12_times_43 : decode cX12_times 43 = .ok (.iload_n 1, 1) := by decide +kernel
theorem dX12_times_44 : decode cX12_times 44 = .ok (.iconst 0, 1) := by decide +kernel
theorem dX12_times_45 : decode cX12_times 45 = .ok (.aload_n 0, 1) := by decide +kernel
theorem dX12_times_46 : decode cX12_times 46 = .ok (.getfield 386, 3) := by decide +kernel
theorem dX12_times_49 : decode cX12_times 49 = .ok (.iconst 1, 1) := by decide +kernel
theorem dX12_times_50 : decode cX12_times 50 = .ok (.isub, 1) := by decide +kernel
theorem dX12_times_51 : decode cX12_times 51 = .ok (.invokestatic 227, 3) := by decide +kernel
theorem dX12_times_54 : decode cX12_times 54 = .ok (.ifCond .eq 8, 3) := by decide +kernel
theorem dX12_times_57 : decode cX12_times 57 = .ok (.iload 4, 2) := by decide +kernel
theorem dX12_times_59 : decode cX12_times 59 = .ok (.ifCond .ne 5, 3) := by decide +kernel
theorem dX12_times_62 : decode cX12_times 62 = .ok (.iconst (-1), 1) := by decide +kernel
theorem dX12_times_63 : decode cX12_times 63 = .ok (.ireturn, 1) := by decide +kernel
theorem dX12_times_64 : decode cX12_times 64 = .ok (.aload_n 0, 1) := by decide +kernel
theorem dX12_times_65 : decode cX12_times 65 = .ok (.invokevirtual 650, 3) := by decide +kernel
theorem dX12_times_68 : decode cX12_times 68 = .ok (.iconst 0, 1) := by decide +kernel
theorem dX12_times_69 : decode cX12_times 69 = .ok (.istore 5, 2) := by decide +kernel
theorem dX12_times_71 : decode cX12_times 71 = .ok (.iload 5, 2) := by decide +kernel
theorem dX12_times_73 : decode cX12_times 73 = .ok (.bipush 64, 2) := by decide +kernel
theorem dX12_times_75 : decode cX12_times 75 = .ok (.if_icmp .ge 58, 3) := by decide +kernel
theorem dX12_times_78 : decode cX12_times 78 = .ok (.aload_n 0, 1) := by decide +kernel
theorem dX12_times_79 : decode cX12_times 79 = .ok (.getfield 205, 3) := by decide +kernel
theorem dX12_times_82 : decode cX12_times 82 = .ok (.iload 5, 2) := by decide +kernel
theorem dX12_times_84 : decode cX12_times 84 = .ok (.aload_n 0, 1) := by decide +kernel
theorem dX12_times_85 : decode cX12_times 85 = .ok (.getfield 83, 3) := by decide +kernel
theorem dX12_times_88 : decode cX12_times 88 = .ok (.iload 5, 2) := by decide +kernel
theorem dX12_times_90 : decode cX12_times 90 = .ok (.iaload, 1) := by decide +kernel
theorem dX12_times_91 : decode cX12_times 91 = .ok (.iastore, 1) := by decide +kernel
theorem dX12_times_92 : decode cX12_times 92 = .ok (.aload_n 0, 1) := by decide +kernel
theorem dX12_times_93 : decode cX12_times 93 = .ok (.getfield 205, 3) := by decide +kernel
theorem dX12_times_96 : decode cX12_times 96 = .ok (.bipush 64, 2) := by decide +kernel
theorem dX12_times_98 : decode cX12_times 98 = .ok (.iload 5, 2) := by decide +kernel
theorem dX12_times_100 : decode cX12_times 100 = .ok (.iadd, 1) := by decide +kernel
theorem dX12_times_101 : decode cX12_times 101 = .ok (.aload_n 0, 1) := by decide +kernel
theorem dX12_times_102 : decode cX12_times 102 = .ok (.getfield 86, 3) := by decide +kernel
theorem dX12_times_105 : decode cX12_times 105 = .ok (.iload 5, 2) := by decide +kernel
theorem dX12_times_107 : decode cX12_times 107 = .ok (.iaload, 1) := by decide +kernel
theorem dX12_times_108 : decode cX12_times 108 = .ok (.iastore, 1) := by decide +kernel
theorem dX12_times_109 : decode cX12_times 109 = .ok (.aload_n 0, 1) := by decide +kernel
theorem dX12_times_110 : decode cX12_times 110 = .ok (.getfield 205, 3) := by decide +kernel
theorem dX12_times_113 : decode cX12_times 113 = .ok (.sipush 128, 3) := by decide +kernel
theorem dX12_times_116 : decode cX12_times 116 = .ok (.iload 5, 2) := by decide +kernel
theorem dX12_times_118 : decode cX12_times 118 = .ok (.iadd, 1) := by decide +kernel
theorem dX12_times_119 : decode cX12_times 119 = .ok (.aload_n 0, 1) := by decide +kernel
theorem dX12_times_120 : decode cX12_times 120 = .ok (.getfield 89, 3) := by decide +kernel
theorem dX12_times_123 : decode cX12_times 123 = .ok (.iload 5, 2) := by decide +kernel
theorem dX12_times_125 : decode cX12_times 125 = .ok (.iaload, 1) := by decide +kernel
theorem dX12_times_126 : decode cX12_times 126 = .ok (.iastore, 1) := by decide +kernel
theorem dX12_times_127 : decode cX12_times 127 = .ok (.iinc 5 1, 3) := by decide +kernel
theorem dX12_times_130 : decode cX12_times 130 = .ok (.goto (-59), 3) := by decide +kernel
theorem dX12_times_133 : decode cX12_times 133 = .ok (.iconst 0, 1) := by decide +kernel
theorem dX12_times_134 : decode cX12_times 134 = .ok (.istore 5, 2) := by decide +kernel
theorem dX12_times_136 : decode cX12_times 136 = .ok (.iload 5, 2) := by decide +kernel
theorem dX12_times_138 : decode cX12_times 138 = .ok (.sipush 1600, 3) := by decide +kernel
theorem dX12_times_141 : decode cX12_times 141 = .ok (.if_icmp .ge 65, 3) := by decide +kernel
theorem dX12_times_144 : decode cX12_times 144 = .ok (.aload_n 0, 1) := by decide +kernel
theorem dX12_times_145 : decode cX12_times 145 = .ok (.getfield 208, 3) := by decide +kernel
theorem dX12_times_148 : decode cX12_times 148 = .ok (.iload 5, 2) := by decide +kernel
theorem dX12_times_150 : decode cX12_times 150 = .ok (.aload_n 0, 1) := by decide +kernel
theorem dX12_times_151 : decode cX12_times 151 = .ok (.getfield 101, 3) := by decide +kernel
theorem dX12_times_154 : decode cX12_times 154 = .ok (.iload 5, 2) := by decide +kernel
theorem dX12_times_156 : decode cX12_times 156 = .ok (.iaload, 1) := by decide +kernel
theorem dX12_times_157 : decode cX12_times 157 = .ok (.iastore, 1) := by decide +kernel
theorem dX12_times_158 : decode cX12_times 158 = .ok (.aload_n 0, 1) := by decide +kernel
theorem dX12_times_159 : decode cX12_times 159 = .ok (.getfield 211, 3) := by decide +kernel
theorem dX12_times_162 : decode cX12_times 162 = .ok (.iload 5, 2) := by decide +kernel
theorem dX12_times_164 : decode cX12_times 164 = .ok (.aload_n 0, 1) := by decide +kernel
theorem dX12_times_165 : decode cX12_times 165 = .ok (.getfield 104, 3) := by decide +kernel
theorem dX12_times_168 : decode cX12_times 168 = .ok (.iload 5, 2) := by decide +kernel
theorem dX12_times_170 : decode cX12_times 170 = .ok (.iaload, 1) := by decide +kernel
theorem dX12_times_171 : decode cX12_times 171 = .ok (.iastore, 1) := by decide +kernel
theorem dX12_times_172 : decode cX12_times 172 = .ok (.aload_n 0, 1) := by decide +kernel
theorem dX12_times_173 : decode cX12_times 173 = .ok (.getfield 214, 3) := by decide +kernel
theorem dX12_times_176 : decode cX12_times 176 = .ok (.iload 5, 2) := by decide +kernel
theorem dX12_times_178 : decode cX12_times 178 = .ok (.aload_n 0, 1) := by decide +kernel
theorem dX12_times_179 : decode cX12_times 179 = .ok (.getfield 107, 3) := by decide +kernel
theorem dX12_times_182 : decode cX12_times 182 = .ok (.iload 5, 2) := by decide +kernel
theorem dX12_times_184 : decode cX12_times 184 = .ok (.iaload, 1) := by decide +kernel
theorem dX12_times_185 : decode cX12_times 185 = .ok (.iastore, 1) := by decide +kernel
theorem dX12_times_186 : decode cX12_times 186 = .ok (.aload_n 0, 1) := by decide +kernel
theorem dX12_times_187 : decode cX12_times 187 = .ok (.getfield 217, 3) := by decide +kernel
theorem dX12_times_190 : decode cX12_times 190 = .ok (.iload 5, 2) := by decide +kernel
theorem dX12_times_192 : decode cX12_times 192 = .ok (.aload_n 0, 1) := by decide +kernel
theorem dX12_times_193 : decode cX12_times 193 = .ok (.getfield 110, 3) := by decide +kernel
theorem dX12_times_196 : decode cX12_times 196 = .ok (.iload 5, 2) := by decide +kernel
theorem dX12_times_198 : decode cX12_times 198 = .ok (.laload, 1) := by decide +kernel
theorem dX12_times_199 : decode cX12_times 199 = .ok (.lastore, 1) := by decide +kernel
theorem dX12_times_200 : decode cX12_times 200 = .ok (.iinc 5 1, 3) := by decide +kernel
theorem dX12_times_203 : decode cX12_times 203 = .ok (.goto (-67), 3) := by decide +kernel
theorem dX12_times_206 : decode cX12_times 206 = .ok (.aload_n 0, 1) := by decide +kernel
theorem dX12_times_207 : decode cX12_times 207 = .ok (.getfield 231, 3) := by decide +kernel
theorem dX12_times_210 : decode cX12_times 210 = .ok (.istore 5, 2) := by decide +kernel
theorem dX12_times_212 : decode cX12_times 212 = .ok (.aload_n 0, 1) := by decide +kernel
theorem dX12_times_213 : decode cX12_times 213 = .ok (.getfield 252, 3) := by decide +kernel
theorem dX12_times_216 : decode cX12_times 216 = .ok (.istore 6, 2) := by decide +kernel
theorem dX12_times_218 : decode cX12_times 218 = .ok (.aload_n 0, 1) := by decide +kernel
theorem dX12_times_219 : decode cX12_times 219 = .ok (.getfield 255, 3) := by decide +kernel
theorem dX12_times_222 : decode cX12_times 222 = .ok (.istore 7, 2) := by decide +kernel
theorem dX12_times_224 : decode cX12_times 224 = .ok (.aload_n 0, 1) := by decide +kernel
theorem dX12_times_225 : decode cX12_times 225 = .ok (.getfield 245, 3) := by decide +kernel
theorem dX12_times_228 : decode cX12_times 228 = .ok (.istore 8, 2) := by decide +kernel
theorem dX12_times_230 : decode cX12_times 230 = .ok (.aload_n 0, 1) := by decide +kernel
theorem dX12_times_231 : decode cX12_times 231 = .ok (.getfield 572, 3) := by decide +kernel
theorem dX12_times_234 : decode cX12_times 234 = .ok (.istore 9, 2) := by decide +kernel
theorem dX12_times_236 : decode cX12_times 236 = .ok (.aload_n 0, 1) := by decide +kernel
theorem dX12_times_237 : decode cX12_times 237 = .ok (.iload_n 2, 1) := by decide +kernel
theorem dX12_times_238 : decode cX12_times 238 = .ok (.iload_n 3, 1) := by decide +kernel
theorem dX12_times_239 : decode cX12_times 239 = .ok (.invokevirtual 220, 3) := by decide +kernel
theorem dX12_times_242 : decode cX12_times 242 = .ok (.pop, 1) := by decide +kernel
theorem dX12_times_243 : decode cX12_times 243 = .ok (.aload_n 0, 1) := by decide +kernel
theorem dX12_times_244 : decode cX12_times 244 = .ok (.iconst 0, 1) := by decide +kernel
theorem dX12_times_245 : decode cX12_times 245 = .ok (.putfield 599, 3) := by decide +kernel
theorem dX12_times_248 : decode cX12_times 248 = .ok (.aload_n 0, 1) := by decide +kernel
theorem dX12_times_249 : decode cX12_times 249 = .ok (.iconst 1, 1) := by decide +kernel
theorem dX12_times_250 : decode cX12_times 250 = .ok (.putfield 602, 3) := by decide +kernel
theorem dX12_times_253 : decode cX12_times 253 = .ok (.aload_n 0, 1) := by decide +kernel
theorem dX12_times_254 : decode cX12_times 254 = .ok (.iload_n 1, 1) := by decide +kernel
theorem dX12_times_255 : decode cX12_times 255 = .ok (.invokevirtual 680, 3) := by decide +kernel
theorem dX12_times_258 : decode cX12_times 258 = .ok (.istore 10, 2) := by decide +kernel
theorem dX12_times_260 : decode cX12_times 260 = .ok (.aload_n 0, 1) := by decide +kernel
theorem dX12_times_261 : decode cX12_times 261 = .ok (.iconst 0, 1) := by decide +kernel
theorem dX12_times_262 : decode cX12_times 262 = .ok (.putfield 602, 3) := by decide +kernel
theorem dX12_times_265 : decode cX12_times 265 = .ok (.aload_n 0, 1) := by decide +kernel
theorem dX12_times_266 : decode cX12_times 266 = .ok (.iload 5, 2) := by decide +kernel
theorem dX12_times_268 : decode cX12_times 268 = .ok (.putfield 231, 3) := by decide +kernel
theorem dX12_times_271 : decode cX12_times 271 = .ok (.aload_n 0, 1) := by decide +kernel
theorem dX12_times_272 : decode cX12_times 272 = .ok (.iload 6, 2) := by decide +kernel
theorem dX12_times_274 : decode cX12_times 274 = .ok (.putfield 252, 3) := by decide +kernel
theorem dX12_times_277 : decode cX12_times 277 = .ok (.aload_n 0, 1) := by decide +kernel
theorem dX12_times_278 : decode cX12_times 278 = .ok (.iload 7, 2) := by decide +kernel
theorem dX12_times_280 : decode cX12_times 280 = .ok (.putfield 255, 3) := by decide +kernel
theorem dX12_times_283 : decode cX12_times 283 = .ok (.aload_n 0, 1) := by decide +kernel
theorem dX12_times_284 : decode cX12_times 284 = .ok (.iload 8, 2) := by decide +kernel
theorem dX12_times_286 : decode cX12_times 286 = .ok (.putfield 245, 3) := by decide +kernel
theorem dX12_times_289 : decode cX12_times 289 = .ok (.aload_n 0, 1) := by decide +kernel
theorem dX12_times_290 : decode cX12_times 290 = .ok (.iload 9, 2) := by decide +kernel
theorem dX12_times_292 : decode cX12_times 292 = .ok (.putfield 572, 3) := by decide +kernel
theorem dX12_times_295 : decode cX12_times 295 = .ok (.aload_n 0, 1) := by decide +kernel
theorem dX12_times_296 : decode cX12_times 296 = .ok (.invokevirtual 659, 3) := by decide +kernel
theorem dX12_times_299 : decode cX12_times 299 = .ok (.iconst 0, 1) := by decide +kernel
theorem dX12_times_300 : decode cX12_times 300 = .ok (.istore 11, 2) := by decide +kernel
theorem dX12_times_302 : decode cX12_times 302 = .ok (.iload 11, 2) := by decide +kernel
theorem dX12_times_304 : decode cX12_times 304 = .ok (.bipush 64, 2) := by decide +kernel
theorem dX12_times_306 : decode cX12_times 306 = .ok (.if_icmp .ge 58, 3) := by decide +kernel
theorem dX12_times_309 : decode cX12_times 309 = .ok (.aload_n 0, 1) := by decide +kernel
theorem dX12_times_310 : decode cX12_times 310 = .ok (.getfield 83, 3) := by decide +kernel
theorem dX12_times_313 : decode cX12_times 313 = .ok (.iload 11, 2) := by decide +kernel
theorem dX12_times_315 : decode cX12_times 315 = .ok (.aload_n 0, 1) := by decide +kernel
theorem dX12_times_316 : decode cX12_times 316 = .ok (.getfield 205, 3) := by decide +kernel
theorem dX12_times_319 : decode cX12_times 319 = .ok (.iload 11, 2) := by decide +kernel
theorem dX12_times_321 : decode cX12_times 321 = .ok (.iaload, 1) := by decide +kernel
theorem dX12_times_322 : decode cX12_times 322 = .ok (.iastore, 1) := by decide +kernel
theorem dX12_times_323 : decode cX12_times 323 = .ok (.aload_n 0, 1) := by decide +kernel
theorem dX12_times_324 : decode cX12_times 324 = .ok (.getfield 86, 3) := by decide +kernel
theorem dX12_times_327 : decode cX12_times 327 = .ok (.iload 11, 2) := by decide +kernel
theorem dX12_times_329 : decode cX12_times 329 = .ok (.aload_n 0, 1) := by decide +kernel
theorem dX12_times_330 : decode cX12_times 330 = .ok (.getfield 205, 3) := by decide +kernel
theorem dX12_times_333 : decode cX12_times 333 = .ok (.bipush 64, 2) := by decide +kernel
theorem dX12_times_335 : decode cX12_times 335 = .ok (.iload 11, 2) := by decide +kernel
theorem dX12_times_337 : decode cX12_times 337 = .ok (.iadd, 1) := by decide +kernel
theorem dX12_times_338 : decode cX12_times 338 = .ok (.iaload, 1) := by decide +kernel
theorem dX12_times_339 : decode cX12_times 339 = .ok (.iastore, 1) := by decide +kernel
theorem dX12_times_340 : decode cX12_times 340 = .ok (.aload_n 0, 1) := by decide +kernel
theorem dX12_times_341 : decode cX12_times 341 = .ok (.getfield 89, 3) := by decide +kernel
theorem dX12_times_344 : decode cX12_times 344 = .ok (.iload 11, 2) := by decide +kernel
theorem dX12_times_346 : decode cX12_times 346 = .ok (.aload_n 0, 1) := by decide +kernel
theorem dX12_times_347 : decode cX12_times 347 = .ok (.getfield 205, 3) := by decide +kernel
theorem dX12_times_350 : decode cX12_times 350 = .ok (.sipush 128, 3) := by decide +kernel
theorem dX12_times_353 : decode cX12_times 353 = .ok (.iload 11, 2) := by decide +kernel
theorem dX12_times_355 : decode cX12_times 355 = .ok (.iadd, 1) := by decide +kernel
theorem dX12_times_356 : decode cX12_times 356 = .ok (.iaload, 1) := by decide +kernel
theorem dX12_times_357 : decode cX12_times 357 = .ok (.iastore, 1) := by decide +kernel
theorem dX12_times_358 : decode cX12_times 358 = .ok (.iinc 11 1, 3) := by decide +kernel
theorem dX12_times_361 : decode cX12_times 361 = .ok (.goto (-59), 3) := by decide +kernel
theorem dX12_times_364 : decode cX12_times 364 = .ok (.iconst 0, 1) := by decide +kernel
theorem dX12_times_365 : decode cX12_times 365 = .ok (.istore 11, 2) := by decide +kernel
theorem dX12_times_367 : decode cX12_times 367 = .ok (.iload 11, 2) := by decide +kernel
theorem dX12_times_369 : decode cX12_times 369 = .ok (.sipush 1600, 3) := by decide +kernel
theorem dX12_times_372 : decode cX12_times 372 = .ok (.if_icmp .ge 65, 3) := by decide +kernel
theorem dX12_times_375 : decode cX12_times 375 = .ok (.aload_n 0, 1) := by decide +kernel
theorem dX12_times_376 : decode cX12_times 376 = .ok (.getfield 101, 3) := by decide +kernel
theorem dX12_times_379 : decode cX12_times 379 = .ok (.iload 11, 2) := by decide +kernel
theorem dX12_times_381 : decode cX12_times 381 = .ok (.aload_n 0, 1) := by decide +kernel
theorem dX12_times_382 : decode cX12_times 382 = .ok (.getfield 208, 3) := by decide +kernel
theorem dX12_times_385 : decode cX12_times 385 = .ok (.iload 11, 2) := by decide +kernel
theorem dX12_times_387 : decode cX12_times 387 = .ok (.iaload, 1) := by decide +kernel
theorem dX12_times_388 : decode cX12_times 388 = .ok (.iastore, 1) := by decide +kernel
theorem dX12_times_389 : decode cX12_times 389 = .ok (.aload_n 0, 1) := by decide +kernel
theorem dX12_times_390 : decode cX12_times 390 = .ok (.getfield 104, 3) := by decide +kernel
theorem dX12_times_393 : decode cX12_times 393 = .ok (.iload 11, 2) := by decide +kernel
theorem dX12_times_395 : decode cX12_times 395 = .ok (.aload_n 0, 1) := by decide +kernel
theorem dX12_times_396 : decode cX12_times 396 = .ok (.getfield 211, 3) := by decide +kernel
theorem dX12_times_399 : decode cX12_times 399 = .ok (.iload 11, 2) := by decide +kernel
theorem dX12_times_401 : decode cX12_times 401 = .ok (.iaload, 1) := by decide +kernel
theorem dX12_times_402 : decode cX12_times 402 = .ok (.iastore, 1) := by decide +kernel
theorem dX12_times_403 : decode cX12_times 403 = .ok (.aload_n 0, 1) := by decide +kernel
theorem dX12_times_404 : decode cX12_times 404 = .ok (.getfield 107, 3) := by decide +kernel
theorem dX12_times_407 : decode cX12_times 407 = .ok (.iload 11, 2) := by decide +kernel
theorem dX12_times_409 : decode cX12_times 409 = .ok (.aload_n 0, 1) := by decide +kernel
theorem dX12_times_410 : decode cX12_times 410 = .ok (.getfield 214, 3) := by decide +kernel
theorem dX12_times_413 : decode cX12_times 413 = .ok (.iload 11, 2) := by decide +kernel
theorem dX12_times_415 : decode cX12_times 415 = .ok (.iaload, 1) := by decide +kernel
theorem dX12_times_416 : decode cX12_times 416 = .ok (.iastore, 1) := by decide +kernel
theorem dX12_times_417 : decode cX12_times 417 = .ok (.aload_n 0, 1) := by decide +kernel
theorem dX12_times_418 : decode cX12_times 418 = .ok (.getfield 110, 3) := by decide +kernel
theorem dX12_times_421 : decode cX12_times 421 = .ok (.iload 11, 2) := by decide +kernel
theorem dX12_times_423 : decode cX12_times 423 = .ok (.aload_n 0, 1) := by decide +kernel
theorem dX12_times_424 : decode cX12_times 424 = .ok (.getfield 217, 3) := by decide +kernel
theorem dX12_times_427 : decode cX12_times 427 = .ok (.iload 11, 2) := by decide +kernel
theorem dX12_times_429 : decode cX12_times 429 = .ok (.laload, 1) := by decide +kernel
theorem dX12_times_430 : decode cX12_times 430 = .ok (.lastore, 1) := by decide +kernel
theorem dX12_times_431 : decode cX12_times 431 = .ok (.iinc 11 1, 3) := by decide +kernel
theorem dX12_times_434 : decode cX12_times 434 = .ok (.goto (-67), 3) := by decide +kernel
theorem dX12_times_437 : decode cX12_times 437 = .ok (.iload 10, 2) := by decide +kernel
theorem dX12_times_439 : decode cX12_times 439 = .ok (.ireturn, 1) := by decide +kernel
abbrev rm_p_X12_times : Room := { frames := 1, cells := 0, slots := 0, locals := 22 }
set_option maxHeartbeats 4000000 in
set_option maxRecDepth 100000 in
theorem p_X12_times (l : Launch) (E : cE) (h0 : Nat) (r : Nat → Nat) (g : Nat → Value) (gx : Nat → Int32) (gy : Nat → Int32) (gw : Nat → Int32) (gt : Nat → Int32) (fx : Nat → Int32) (fy : Nat → Int32) (fw : Nat → Int32) (bx : Nat → Int32) (by_ : Nat → Int32) (bw : Nat → Int32) (v : Int32) (u : Int32) (n : Int32) (hR : mOK r g) (hI : ∀ k, k < 116 → mRef k = false → g k = mI k) (hm1 : flo (stC 0) (2 * 4) gx gy gw) (hm2 : ∀ d, d < 2 * 4 → gt d = 0) (hm3 : ∀ d, d < 2 * 4 → fx d = gx d ∧ fy d = gy d ∧ fw d = gw d) (hm4 : ∀ d, d < 2 * 4 → bx d = gx d ∧ by_ d = gy d ∧ bw d = gw d) : cM l E yX12_times cX12_times 12 (some .int) rm_p_X12_times [.ref h0, .int v, .int u, .int n] [(h0, ob 12 (mfs g))] (qI E (fun (r : Int32) (_u : Unit) => r = -1) (fun _ => [])) := by
  refine cM_of (by decide) (Nat.le_of_ble_eq_true rfl) ?_
  intro p e s m below meth c ls A F hA hS hP hD hK hZ hl
  obtain ⟨hx, hb, hr, hml, hown, hts, hlk, hin⟩ := id F
  have hown : s.vm.findClass RX12 = some m.cls := hown
  have hl : lv_has ls 12 [(0, .ref h0), (1, .int v), (2, .int u), (3, .int n)] := hl
  refine lv_iload_n hx hb dX12_times_0 rfl (lv_at hl 2 rfl) ?_
  refine lv_if_ne (tgt := 17) hx hb dX12_times_1 (by decide) (fun c1 => ?_) (fun c1 => ?_)
  · refine lv_iload_n hx hb dX12_times_17 rfl (lv_at hl 2 rfl) ?_
    refine lv_iconst (v := nI 1) hx hb dX12_times_18 (by decide) ?_
    refine lv_iconst (v := nI 3) hx hb dX12_times_19 (by decide) ?_
    refine cI_go (wr := [(h0, ob 12 (mfs g))]) (cM_runS (As := [.int u, .int (nI 1), .int (nI 3)]) (rest := []) F (c_X12_in l E u (nI 1) (nI 3)) yy_X12_in wdT_X12_in wdM_RX12_227 hP hD hS hK hZ hA [] rfl rfl rfl hl.1 rfl (Nat.le_of_ble_eq_true rfl) dX12_times_20 ⟨by decide, by decide⟩ ⟨by decide, by decide⟩) hP hD hS hA [] [0] rfl rfl rfl (by decide) (fun r_353 u_352 H locs hw_351 hP hD hS => ?_)
    try dsimp only at hw_351
    have hP : va_P E.1 vwCl [(h0, ob 12 (mfs g))] H := hP
    have hD : va_D A [(h0, ob 12 (mfs g))] := hD
    refine lv_if_eq (tgt := 40) hx hb dX12_times_23 (by decide) (fun c2 => ?_) (fun c2 => ?_)
    · refine lv_iconst (v := nI 0) hx hb dX12_times_40 (by decide) ?_
      refine lv_istore (lv' := [(4, .int (nI 0)), (0, .ref h0), (1, .int v), (2, .int u), (3, .int n)]) hx hb dX12_times_41 hl (by decide) rfl (fun ls hl => ?_)
      refine lv_iload_n hx hb dX12_times_43 rfl (lv_at hl 2 rfl) ?_
      refine lv_iconst (v := nI 0) hx hb dX12_times_44 (by decide) ?_
      refine lv_aload_n hx hb dX12_times_45 rfl (lv_at hl 1 rfl) ?_
      refine va_get (D := E.1) (ci := 12) (v := .int 0) (C := RX12) (T := TX12) (N := 116) hx hb hts iX12 hown hK hP 0 rfl rfl 16 (by decide) (hts _ wdF_RX12_386) (fun _ h9 => h9) ((mfs_get _ 16 (by decide)).trans (congrArg some (show (g) 16 = .int 0 from (hI 16 (by decide) rfl)))) dX12_times_46 ?_
      refine lv_iconst (v := nI 1) hx hb dX12_times_49 (by decide) ?_
      refine lv_isub hx hb dX12_times_50 ?_
      rw [show (0 - (nI 1) : Int32) = (-1) from by decide]
      refine cI_go (wr := [(h0, ob 12 (mfs g))]) (cM_runS (As := [.int v, .int (nI 0), .int (-1)]) (rest := []) F (c_X12_in l E v (nI 0) (-1)) yy_X12_in wdT_X12_in wdM_RX12_227 hP hD hS hK hZ hA [] rfl rfl rfl hl.1 rfl (Nat.le_of_ble_eq_true rfl) dX12_times_51 ⟨by decide, by decide⟩ ⟨by decide, by decide⟩) hP hD hS hA [] [0] rfl rfl rfl (by decide) (fun r_356 u_355 H locs hw_354 hP hD hS => ?_)
      try dsimp only at hw_354
      have hP : va_P E.1 vwCl [(h0, ob 12 (mfs g))] H := hP
      have hD : va_D A [(h0, ob 12 (mfs g))] := hD
      rw [if_neg (fun h => absurd (Int32.le_trans h.1 h.2) (by decide))] at hw_354
      subst hw_354
      refine lv_if_eq (tgt := 62) hx hb dX12_times_54 (by decide) (fun c_357 => ?_) (fun c_357 => absurd (by decide) c_357)
      refine lv_iconst (v := (-1)) hx hb dX12_times_62 (by decide) ?_
      exact cI_ret F hP hD hS hK () rfl [] rfl rfl dX12_times_63 (by decide) (by decide)
    · refine lv_iload_n hx hb dX12_times_26 rfl (lv_at hl 3 rfl) ?_
      refine lv_iconst (v := nI 1) hx hb dX12_times_27 (by decide) ?_
      refine lv_bipush (v := nI 32) hx hb dX12_times_28 (by decide) ?_
      refine cI_go (wr := [(h0, ob 12 (mfs g))]) (cM_runS (As := [.int n, .int (nI 1), .int (nI 32)]) (rest := []) F (c_X12_in l E n (nI 1) (nI 32)) yy_X12_in wdT_X12_in wdM_RX12_227 hP hD hS hK hZ hA [] rfl rfl rfl hl.1 rfl (Nat.le_of_ble_eq_true rfl) dX12_times_30 ⟨by decide, by decide⟩ ⟨by decide, by decide⟩) hP hD hS hA [] [0] rfl rfl rfl (by decide) (fun r_360 u_359 H locs hw_358 hP hD hS => ?_)
      try dsimp only at hw_358
      have hP : va_P E.1 vwCl [(h0, ob 12 (mfs g))] H := hP
      have hD : va_D A [(h0, ob 12 (mfs g))] := hD
      refine lv_if_eq (tgt := 40) hx hb dX12_times_33 (by decide) (fun c3 => ?_) (fun c3 => ?_)
      · refine lv_iconst (v := nI 0) hx hb dX12_times_40 (by decide) ?_
        refine lv_istore (lv' := [(4, .int (nI 0)), (0, .ref h0), (1, .int v), (2, .int u), (3, .int n)]) hx hb dX12_times_41 hl (by decide) rfl (fun ls hl => ?_)
        refine lv_iload_n hx hb dX12_times_43 rfl (lv_at hl 2 rfl) ?_
        refine lv_iconst (v := nI 0) hx hb dX12_times_44 (by decide) ?_
        refine lv_aload_n hx hb dX12_times_45 rfl (lv_at hl 1 rfl) ?_
        refine va_get (D := E.1) (ci := 12) (v := .int 0) (C := RX12) (T := TX12) (N := 116) hx hb hts iX12 hown hK hP 0 rfl rfl 16 (by decide) (hts _ wdF_RX12_386) (fun _ h9 => h9) ((mfs_get _ 16 (by decide)).trans (congrArg some (show (g) 16 = .int 0 from (hI 16 (by decide) rfl)))) dX12_times_46 ?_
        refine lv_iconst (v := nI 1) hx hb dX12_times_49 (by decide) ?_
        refine lv_isub hx hb dX12_times_50 ?_
        rw [show (0 - (nI 1) : Int32) = (-1) from by decide]
        refine cI_go (wr := [(h0, ob 12 (mfs g))]) (cM_runS (As := [.int v, .int (nI 0), .int (-1)]) (rest := []) F (c_X12_in l E v (nI 0) (-1)) yy_X12_in wdT_X12_in wdM_RX12_227 hP hD hS hK hZ hA [] rfl rfl rfl hl.1 rfl (Nat.le_of_ble_eq_true rfl) dX12_times_51 ⟨by decide, by decide⟩ ⟨by decide, by decide⟩) hP hD hS hA [] [0] rfl rfl rfl (by decide) (fun r_363 u_362 H locs hw_361 hP hD hS => ?_)
        try dsimp only at hw_361
        have hP : va_P E.1 vwCl [(h0, ob 12 (mfs g))] H := hP
        have hD : va_D A [(h0, ob 12 (mfs g))] := hD
        rw [if_neg (fun h => absurd (Int32.le_trans h.1 h.2) (by decide))] at hw_361
        subst hw_361
        refine lv_if_eq (tgt := 62) hx hb dX12_times_54 (by decide) (fun c_364 => ?_) (fun c_364 => absurd (by decide) c_364)
        refine lv_iconst (v := (-1)) hx hb dX12_times_62 (by decide) ?_
        exact cI_ret F hP hD hS hK () rfl [] rfl rfl dX12_times_63 (by decide) (by decide)
      · refine lv_iconst (v := nI 1) hx hb dX12_times_36 (by decide) ?_
        refine lv_goto (tgt := 41) hx hb dX12_times_37 (by decide) ?_
        refine lv_istore (lv' := [(4, .int (nI 1)), (0, .ref h0), (1, .int v), (2, .int u), (3, .int n)]) hx hb dX12_times_41 hl (by decide) rfl (fun ls hl => ?_)
        refine lv_iload_n hx hb dX12_times_43 rfl (lv_at hl 2 rfl) ?_
        refine lv_iconst (v := nI 0) hx hb dX12_times_44 (by decide) ?_
        refine lv_aload_n hx hb dX12_times_45 rfl (lv_at hl 1 rfl) ?_
        refine va_get (D := E.1) (ci := 12) (v := .int 0) (C := RX12) (T := TX12) (N := 116) hx hb hts iX12 hown hK hP 0 rfl rfl 16 (by decide) (hts _ wdF_RX12_386) (fun _ h9 => h9) ((mfs_get _ 16 (by decide)).trans (congrArg some (show (g) 16 = .int 0 from (hI 16 (by decide) rfl)))) dX12_times_46 ?_
        refine lv_iconst (v := nI 1) hx hb dX12_times_49 (by decide) ?_
        refine lv_isub hx hb dX12_times_50 ?_
        rw [show (0 - (nI 1) : Int32) = (-1) from by decide]
        refine cI_go (wr := [(h0, ob 12 (mfs g))]) (cM_runS (As := [.int v, .int (nI 0), .int (-1)]) (rest := []) F (c_X12_in l E v (nI 0) (-1)) yy_X12_in wdT_X12_in wdM_RX12_227 hP hD hS hK hZ hA [] rfl rfl rfl hl.1 rfl (Nat.le_of_ble_eq_true rfl) dX12_times_51 ⟨by decide, by decide⟩ ⟨by decide, by decide⟩) hP hD hS hA [] [0] rfl rfl rfl (by decide) (fun r_367 u_366 H locs hw_365 hP hD hS => ?_)
        try dsimp only at hw_365
        have hP : va_P E.1 vwCl [(h0, ob 12 (mfs g))] H := hP
        have hD : va_D A [(h0, ob 12 (mfs g))] := hD
        rw [if_neg (fun h => absurd (Int32.le_trans h.1 h.2) (by decide))] at hw_365
        subst hw_365
        refine lv_if_eq (tgt := 62) hx hb dX12_times_54 (by decide) (fun c_368 => ?_) (fun c_368 => absurd (by decide) c_368)
        refine lv_iconst (v := (-1)) hx hb dX12_times_62 (by decide) ?_
        exact cI_ret F hP hD hS hK () rfl [] rfl rfl dX12_times_63 (by decide) (by decide)
  · refine lv_iload_n hx hb dX12_times_4 rfl (lv_at hl 3 rfl) ?_
    refine lv_iconst (v := nI 4) hx hb dX12_times_5 (by decide) ?_
    refine lv_icmp_ne (tgt := 13) hx hb dX12_times_6 (by decide) (fun c2 => ?_) (fun c2 => ?_)
    · refine lv_iconst (v := nI 0) hx hb dX12_times_13 (by decide) ?_
      refine lv_goto (tgt := 41) hx hb dX12_times_14 (by decide) ?_
      refine lv_istore (lv' := [(4, .int (nI 0)), (0, .ref h0), (1, .int v), (2, .int u), (3, .int n)]) hx hb dX12_times_41 hl (by decide) rfl (fun ls hl => ?_)
      refine lv_iload_n hx hb dX12_times_43 rfl (lv_at hl 2 rfl) ?_
      refine lv_iconst (v := nI 0) hx hb dX12_times_44 (by decide) ?_
      refine lv_aload_n hx hb dX12_times_45 rfl (lv_at hl 1 rfl) ?_
      refine va_get (D := E.1) (ci := 12) (v := .int 0) (C := RX12) (T := TX12) (N := 116) hx hb hts iX12 hown hK hP 0 rfl rfl 16 (by decide) (hts _ wdF_RX12_386) (fun _ h9 => h9) ((mfs_get _ 16 (by decide)).trans (congrArg some (show (g) 16 = .int 0 from (hI 16 (by decide) rfl)))) dX12_times_46 ?_
      refine lv_iconst (v := nI 1) hx hb dX12_times_49 (by decide) ?_
      refine lv_isub hx hb dX12_times_50 ?_
      rw [show (0 - (nI 1) : Int32) = (-1) from by decide]
      refine cI_go (wr := [(h0, ob 12 (mfs g))]) (cM_runS (As := [.int v, .int (nI 0), .int (-1)]) (rest := []) F (c_X12_in l E v (nI 0) (-1)) yy_X12_in wdT_X12_in wdM_RX12_227 hP hD hS hK hZ hA [] rfl rfl rfl hl.1 rfl (Nat.le_of_ble_eq_true rfl) dX12_times_51 ⟨by decide, by decide⟩ ⟨by decide, by decide⟩) hP hD hS hA [] [0] rfl rfl rfl (by decide) (fun r_345 u_344 H locs hw_343 hP hD hS => ?_)
      try dsimp only at hw_343
      have hP : va_P E.1 vwCl [(h0, ob 12 (mfs g))] H := hP
      have hD : va_D A [(h0, ob 12 (mfs g))] := hD
      rw [if_neg (fun h => absurd (Int32.le_trans h.1 h.2) (by decide))] at hw_343
      subst hw_343
      refine lv_if_eq (tgt := 62) hx hb dX12_times_54 (by decide) (fun c_346 => ?_) (fun c_346 => absurd (by decide) c_346)
      refine lv_iconst (v := (-1)) hx hb dX12_times_62 (by decide) ?_
      exact cI_ret F hP hD hS hK () rfl [] rfl rfl dX12_times_63 (by decide) (by decide)
    · refine lv_iconst (v := nI 1) hx hb dX12_times_9 (by decide) ?_
      refine lv_goto (tgt := 41) hx hb dX12_times_10 (by decide) ?_
      refine lv_istore (lv' := [(4, .int (nI 1)), (0, .ref h0), (1, .int v), (2, .int u), (3, .int n)]) hx hb dX12_times_41 hl (by decide) rfl (fun ls hl => ?_)
      refine lv_iload_n hx hb dX12_times_43 rfl (lv_at hl 2 rfl) ?_
      refine lv_iconst (v := nI 0) hx hb dX12_times_44 (by decide) ?_
      refine lv_aload_n hx hb dX12_times_45 rfl (lv_at hl 1 rfl) ?_
      refine va_get (D := E.1) (ci := 12) (v := .int 0) (C := RX12) (T := TX12) (N := 116) hx hb hts iX12 hown hK hP 0 rfl rfl 16 (by decide) (hts _ wdF_RX12_386) (fun _ h9 => h9) ((mfs_get _ 16 (by decide)).trans (congrArg some (show (g) 16 = .int 0 from (hI 16 (by decide) rfl)))) dX12_times_46 ?_
      refine lv_iconst (v := nI 1) hx hb dX12_times_49 (by decide) ?_
      refine lv_isub hx hb dX12_times_50 ?_
      rw [show (0 - (nI 1) : Int32) = (-1) from by decide]
      refine cI_go (wr := [(h0, ob 12 (mfs g))]) (cM_runS (As := [.int v, .int (nI 0), .int (-1)]) (rest := []) F (c_X12_in l E v (nI 0) (-1)) yy_X12_in wdT_X12_in wdM_RX12_227 hP hD hS hK hZ hA [] rfl rfl rfl hl.1 rfl (Nat.le_of_ble_eq_true rfl) dX12_times_51 ⟨by decide, by decide⟩ ⟨by decide, by decide⟩) hP hD hS hA [] [0] rfl rfl rfl (by decide) (fun r_349 u_348 H locs hw_347 hP hD hS => ?_)
      try dsimp only at hw_347
      have hP : va_P E.1 vwCl [(h0, ob 12 (mfs g))] H := hP
      have hD : va_D A [(h0, ob 12 (mfs g))] := hD
      rw [if_neg (fun h => absurd (Int32.le_trans h.1 h.2) (by decide))] at hw_347
      subst hw_347
      refine lv_if_eq (tgt := 62) hx hb dX12_times_54 (by decide) (fun c_350 => ?_) (fun c_350 => absurd (by decide) c_350)
      refine lv_iconst (v := (-1)) hx hb dX12_times_62 (by decide) ?_
      exact cI_ret F hP hD hS hK () rfl [] rfl rfl dX12_times_63 (by decide) (by decide)
theorem yy_X12_times : cY yX12_times cX12_times 12 (some .int) 3 := ⟨wdK_X12_times, wdZ_RX12, by decide +kernel⟩
theorem yi_X12_times : cYi yX12_times := ⟨wdN_X12_times, wdS_X12_times⟩
theorem dX12_whoAt_0 : decode cX12_whoAt 0 = .ok (.iconst 0, 1) := by decide +kernel
theorem dX12_whoAt_1 : decode cX12_whoAt 1 = .ok (.istore_n 3, 1) := by decide +kernel
theorem dX12_whoAt_2 : decode cX12_whoAt 2 = .ok (.iload_n 3, 1) := by decide +kernel
theorem dX12_whoAt_3 : decode cX12_whoAt 3 = .ok (.aload_n 0, 1) := by decide +kernel
theorem dX12_whoAt_4 : decode cX12_whoAt 4 = .ok (.getfield 231, 3) := by decide +kernel
theorem dX12_whoAt_7 : decode cX12_whoAt 7 = .ok (.if_icmp .ge 31, 3) := by decide +kernel
theorem dX12_whoAt_10 : decode cX12_whoAt 10 = .ok (.aload_n 0, 1) := by decide +kernel
theorem dX12_whoAt_11 : decode cX12_whoAt 11 = .ok (.getfield 71, 3) := by decide +kernel
theorem dX12_whoAt_14 : decode cX12_whoAt 14 = .ok (.iload_n 3, 1) := by decide +kernel
theorem dX12_whoAt_15 : decode cX12_whoAt 15 = .ok (.iaload, 1) := by decide +kernel
theorem dX12_whoAt_16 : decode cX12_whoAt 16 = .ok (.iload_n 1, 1) := by decide +kernel
theorem dX12_whoAt_17 : decode cX12_whoAt 17 = .ok (.if_icmp .ne 15, 3) := by decide +kernel
theorem dX12_whoAt_20 : decode cX12_whoAt 20 = .ok (.aload_n 0, 1) := by decide +kernel
theorem dX12_whoAt_21 : decode cX12_whoAt 21 = .ok (.getfield 74, 3) := by decide +kernel
theorem dX12_whoAt_24 : decode cX12_whoAt 24 = .ok (.iload_n 3, 1) := by decide +kernel
theorem dX12_whoAt_25 : decode cX12_whoAt 25 = .ok (.iaload, 1) := by decide +kernel
theorem dX12_whoAt_26 : decode cX12_whoAt 26 = .ok (.iload_n 2, 1) := by decide +kernel
theorem dX12_whoAt_27 : decode cX12_whoAt 27 = .ok (.if_icmp .ne 5, 3) := by decide +kernel
theorem dX12_whoAt_30 : decode cX12_whoAt 30 = .ok (.iload_n 3, 1) := by decide +kernel
theorem dX12_whoAt_31 : decode cX12_whoAt 31 = .ok (.ireturn, 1) := by decide +kernel
theorem dX12_whoAt_32 : decode cX12_whoAt 32 = .ok (.iinc 3 1, 3) := by decide +kernel
theorem dX12_whoAt_35 : decode cX12_whoAt 35 = .ok (.goto (-33), 3) := by decide +kernel
theorem dX12_whoAt_38 : decode cX12_whoAt 38 = .ok (.iconst (-1), 1) := by decide +kernel
theorem dX12_whoAt_39 : decode cX12_whoAt 39 = .ok (.ireturn, 1) := by decide +kernel
abbrev rm_c_X12_whoAt : Room := { frames := 0, cells := 0, slots := 0, locals := 0 }
set_option maxHeartbeats 4000000 in
set_option maxRecDepth 100000 in
theorem c_X12_whoAt (l : Launch) (E : cE) (h0 : Nat) (r : Nat → Nat) (g : Nat → Value) (mx : Nat → Int32) (my : Nat → Int32) (mw : Nat → Int32) (N : Nat) (cd : Nat → Nat) (px : Int32) (py : Int32) (hR : mOK r g) (hgn : g 37 = .int (nI N)) (hN : N ≤ 64) (hf : flo cd N mx my mw) : cM l E yX12_whoAt cX12_whoAt 4 (some .int) rm_c_X12_whoAt [.ref h0, .int px, .int py] [(h0, ob 12 (mfs g)), ((r 38), aI E 64 mx), ((r 39), aI E 64 my)] (qI E (fun (r : Int32) (_u : Unit) => r = whoF cd px py N 0) (fun _ => [(h0, ob 12 (mfs g)), ((r 38), aI E 64 mx), ((r 39), aI E 64 my)])) := by
  refine cM_of (by decide) (Nat.le_of_ble_eq_true rfl) ?_
  intro p e s m below meth c ls A F hA hS hP hD hK hZ hl
  obtain ⟨hx, hb, hr, hml, hown, hts, hlk, hin⟩ := id F
  have hown : s.vm.findClass RX12 = some m.cls := hown
  have hl : lv_has ls 4 [(0, .ref h0), (1, .int px), (2, .int py)] := hl
  refine lv_iconst (v := nI 0) hx hb dX12_whoAt_0 (by decide) ?_
  refine lv_istore_n (lv' := [(3, .int (nI 0)), (0, .ref h0), (1, .int px), (2, .int py)]) hx hb dX12_whoAt_1 rfl hl (by decide) rfl (fun ls hl => ?_)
  have lp : ∀ (n_lp : Nat) (i : Nat) (hn : N + 1 ≤ i + n_lp) (hi : i ≤ N) (hg9 : whoF cd px py (N - i) i = whoF cd px py N 0) (H : Heap) (locs : List Loc) (ls : Array Slot), va_P E.1 vwCl [(h0, ob 12 (mfs g)), ((r 38), aI E 64 mx), ((r 39), aI E 64 my)] H → va_D A [(h0, ob 12 (mfs g)), ((r 38), aI E 64 mx), ((r 39), aI E 64 my)] → va_S A s.heap H locs → lv_has ls 4 [(0, .ref h0), (1, .int px), (2, .int py), (3, .int (nI i))] → W p l e rm_c_X12_whoAt s m ([.ref h0, .int px, .int py] : List Value).toArray below meth c H locs 0 0 (MQ below ((qI E (fun (r : Int32) (_u : Unit) => r = whoF cd px py N 0) (fun _ => [(h0, ob 12 (mfs g)), ((r 38), aI E 64 mx), ((r 39), aI E 64 my)])) A) ([.ref h0, .int px, .int py] : List Value).toArray s (rm_c_X12_whoAt).cells (rm_c_X12_whoAt).slots A) (F0 m 2 ls []) := by
    intro n_lp
    induction n_lp with
    | zero =>
      intro i hn hi hg9
      exfalso; omega
    | succ n_lp ih_lp =>
      intro i hn hi hg9 H locs ls hP hD hS hl
      refine lv_iload_n hx hb dX12_whoAt_2 rfl (lv_at hl 3 rfl) ?_
      refine lv_aload_n hx hb dX12_whoAt_3 rfl (lv_at hl 0 rfl) ?_
      refine va_get (D := E.1) (ci := 12) (v := .int (nI N)) (C := RX12) (T := TX12) (N := 116) hx hb hts iX12 hown hK hP 0 rfl rfl 37 (by decide) (hts _ wdF_RX12_231) (fun _ h9 => h9) ((mfs_get _ 37 (by decide)).trans (congrArg some (show (g) 37 = .int (nI N) from hgn))) dX12_whoAt_4 ?_
      refine lv_icmp_ge (tgt := 38) hx hb dX12_whoAt_7 (by decide) (fun c1 => ?_) (fun c1 => ?_)
      · have c2 : N ≤ i := (nI_leI (by omega) (by omega)).mp c1
        refine lv_iconst (v := (-1)) hx hb dX12_whoAt_38 (by decide) ?_
        exact cI_ret F hP hD hS hK () (by rw [← hg9, show N - i = 0 by omega]; rfl) [0, 1, 2] rfl rfl dX12_whoAt_39 (by decide) (by decide)
      · have c2 : i < N := Nat.lt_of_not_le (fun h => c1 (nI_le h (by omega)))
        obtain ⟨-, hx1, hy1, -⟩ := hf i c2
        obtain ⟨k9, hk9⟩ : ∃ k9, N - i = k9 + 1 := ⟨N - i - 1, by omega⟩
        rw [hk9] at hg9
        have hU : whoF cd px py (k9 + 1) i = if nI (4 * (cd i / 4 % 64)) = px ∧ nI (4 * (cd i / 256)) = py then nI i else whoF cd px py k9 (i + 1) := rfl
        refine lv_aload_n hx hb dX12_whoAt_10 rfl (lv_at hl 0 rfl) ?_
        refine va_get (D := E.1) (ci := 12) (v := .ref (r 38)) (C := RX12) (T := TX12) (N := 116) hx hb hts iX12 hown hK hP 0 rfl rfl 38 (by decide) (hts _ wdF_RX12_71) (fun _ h9 => h9) ((mfs_get _ 38 (by decide)).trans (congrArg some (show (g) 38 = .ref (r 38) from (hR 38 rfl)))) dX12_whoAt_11 ?_
        refine lv_iload_n hx hb dX12_whoAt_14 rfl (lv_at hl 3 rfl) ?_
        refine va_iald hx hb hK hP 1 1 rfl rfl (vp_in_nI (by omega) (by decide)) dX12_whoAt_15 ?_
        rw [nI_clamp (n := i) (by omega)]
        refine lv_iload_n hx hb dX12_whoAt_16 rfl (lv_at hl 1 rfl) ?_
        refine lv_icmp_ne (tgt := 32) hx hb dX12_whoAt_17 (by decide) (fun c3 => ?_) (fun c3 => ?_)
        · refine lv_iinc (v := nI (i + 1)) (lv' := [(3, .int (nI (i + 1))), (0, .ref h0), (1, .int px), (2, .int py)]) hx hb dX12_whoAt_32 hl (k := 3) rfl (nI_1 i) (by decide) rfl (fun ls hl => ?_)
          refine lv_goto (tgt := 2) hx hb dX12_whoAt_35 (by decide) ?_
          exact ih_lp (i + 1) (by omega) (by omega) (by rw [← hg9, hU, if_neg (fun h => c3 (hx1.trans h.1)), show N - (i + 1) = k9 by omega]) _ _ _ hP hD hS (lv_sub hl [1, 2, 3, 0] rfl)
        · refine lv_aload_n hx hb dX12_whoAt_20 rfl (lv_at hl 0 rfl) ?_
          refine va_get (D := E.1) (ci := 12) (v := .ref (r 39)) (C := RX12) (T := TX12) (N := 116) hx hb hts iX12 hown hK hP 0 rfl rfl 39 (by decide) (hts _ wdF_RX12_74) (fun _ h9 => h9) ((mfs_get _ 39 (by decide)).trans (congrArg some (show (g) 39 = .ref (r 39) from (hR 39 rfl)))) dX12_whoAt_21 ?_
          refine lv_iload_n hx hb dX12_whoAt_24 rfl (lv_at hl 3 rfl) ?_
          refine va_iald hx hb hK hP 2 1 rfl rfl (vp_in_nI (by omega) (by decide)) dX12_whoAt_25 ?_
          rw [nI_clamp (n := i) (by omega)]
          refine lv_iload_n hx hb dX12_whoAt_26 rfl (lv_at hl 2 rfl) ?_
          refine lv_icmp_ne (tgt := 32) hx hb dX12_whoAt_27 (by decide) (fun c4 => ?_) (fun c4 => ?_)
          · refine lv_iinc (v := nI (i + 1)) (lv' := [(3, .int (nI (i + 1))), (0, .ref h0), (1, .int px), (2, .int py)]) hx hb dX12_whoAt_32 hl (k := 3) rfl (nI_1 i) (by decide) rfl (fun ls hl => ?_)
            refine lv_goto (tgt := 2) hx hb dX12_whoAt_35 (by decide) ?_
            exact ih_lp (i + 1) (by omega) (by omega) (by rw [← hg9, hU, if_neg (fun h => c4 (hy1.trans h.2)), show N - (i + 1) = k9 by omega]) _ _ _ hP hD hS (lv_sub hl [1, 2, 3, 0] rfl)
          · refine lv_iload_n hx hb dX12_whoAt_30 rfl (lv_at hl 3 rfl) ?_
            exact cI_ret F hP hD hS hK () (by rw [← hg9, hU, if_pos ⟨hx1.symm.trans c3, hy1.symm.trans c4⟩]) [0, 1, 2] rfl rfl dX12_whoAt_31 (by decide) (by decide)
  exact lp (N + 1) 0 (by omega) (by omega) rfl _ _ _ hP hD hS (lv_sub hl [1, 2, 3, 0] rfl)
theorem yy_X12_whoAt : cY yX12_whoAt cX12_whoAt 4 (some .int) 2 := ⟨wdK_X12_whoAt, wdZ_RX12, by decide +kernel⟩
theorem yi_X12_whoAt : cYi yX12_whoAt := ⟨wdN_X12_whoAt, wdS_X12_whoAt⟩
theorem dX12_at_0 : decode cX12_at 0 = .ok (.aload_n 0, 1) := by decide +kernel
theorem dX12_at_1 : decode cX12_at 1 = .ok (.iload_n 1, 1) := by decide +kernel
theorem dX12_at_2 : decode cX12_at 2 = .ok (.iload_n 2, 1) := by decide +kernel
theorem dX12_at_3 : decode cX12_at 3 = .ok (.invokevirtual 477, 3) := by decide +kernel
theorem dX12_at_6 : decode cX12_at 6 = .ok (.ireturn, 1) := by decide +kernel
abbrev rm_p_X12_at : Room := { frames := 1, cells := 0, slots := 0, locals := 23 }
set_option maxHeartbeats 4000000 in
set_option maxRecDepth 100000 in
theorem p_X12_at (l : Launch) (E : cE) (h0 : Nat) (r : Nat → Nat) (g : Nat → Value) (gx : Nat → Int32) (gy : Nat → Int32) (gw : Nat → Int32) (gt : Nat → Int32) (fx : Nat → Int32) (fy : Nat → Int32) (fw : Nat → Int32) (bx : Nat → Int32) (by_ : Nat → Int32) (bw : Nat → Int32) (x : Int32) (y : Int32) (hR : mOK r g) (hI : ∀ k, k < 116 → mRef k = false → g k = mI k) (hm1 : flo (stC 0) (2 * 4) gx gy gw) (hm2 : ∀ d, d < 2 * 4 → gt d = 0) (hm3 : ∀ d, d < 2 * 4 → fx d = gx d ∧ fy d = gy d ∧ fw d = gw d) (hm4 : ∀ d, d < 2 * 4 → bx d = gx d ∧ by_ d = gy d ∧ bw d = gw d) : cM l E yX12_at cX12_at 3 (some .int) rm_p_X12_at [.ref h0, .int x, .int y] [(h0, ob 12 (mfs g)), ((r 38), aI E 64 gx), ((r 39), aI E 64 gy)] (qI E (fun (r : Int32) (_u : Unit) => r = whoF (stC 0) x y 8 0) (fun _ => [])) := by
  refine cM_of (by decide) (Nat.le_of_ble_eq_true rfl) ?_
  intro p e s m below meth c ls A F hA hS hP hD hK hZ hl
  obtain ⟨hx, hb, hr, hml, hown, hts, hlk, hin⟩ := id F
  have hown : s.vm.findClass RX12 = some m.cls := hown
  have hl : lv_has ls 3 [(0, .ref h0), (1, .int x), (2, .int y)] := hl
  refine lv_aload_n hx hb dX12_at_0 rfl (lv_at hl 0 rfl) ?_
  refine lv_iload_n hx hb dX12_at_1 rfl (lv_at hl 1 rfl) ?_
  refine lv_iload_n hx hb dX12_at_2 rfl (lv_at hl 2 rfl) ?_
  refine cI_go (wr := []) (cM_runV (As := [.int x, .int y]) (rest := []) F (c_X12_whoAt l E h0 r g gx gy gw (2 * 4) (stC 0) x y hR (hI 37 (by decide) rfl) (by decide) hm1) yy_X12_whoAt yi_X12_whoAt wdM_RX12_477 hP hD hS hK hZ hA [0, 1, 2] rfl rfl 0 12 rfl rfl rfl hl.1 rfl (Nat.le_of_ble_eq_true rfl) dX12_at_3 ⟨by decide, by decide⟩ ⟨by decide, by decide⟩) hP hD hS hA [0, 1, 2] [] rfl rfl rfl (by decide) (fun r_371 u_370 H locs hw_369 hP hD hS => ?_)
  try dsimp only at hw_369
  have hP : va_P E.1 vwCl [(h0, ob 12 (mfs g)), ((r 38), aI E 64 gx), ((r 39), aI E 64 gy)] H := hP
  have hD : va_D A [(h0, ob 12 (mfs g)), ((r 38), aI E 64 gx), ((r 39), aI E 64 gy)] := hD
  exact cI_ret F hP hD hS hK () hw_369 [] rfl rfl dX12_at_6 (by decide) (by decide)
theorem yy_X12_at : cY yX12_at cX12_at 3 (some .int) 2 := ⟨wdK_X12_at, wdZ_RX12, by decide +kernel⟩
theorem yi_X12_at : cYi yX12_at := ⟨wdN_X12_at, wdS_X12_at⟩
theorem dX12_isHome_0 : decode cX12_isHome 0 = .ok (.iconst 1, 1) := by decide +kernel
theorem dX12_isHome_1 : decode cX12_isHome 1 = .ok (.istore_n 1, 1) := by decide +kernel
theorem dX12_isHome_2 : decode cX12_isHome 2 = .ok (.iconst 0, 1) := by decide +kernel
theorem dX12_isHome_3 : decode cX12_isHome 3 = .ok (.istore_n 2, 1) := by decide +kernel
theorem dX12_isHome_4 : decode cX12_isHome 4 = .ok (.iload_n 2, 1) := by decide +kernel
theorem dX12_isHome_5 : decode cX12_isHome 5 = .ok (.aload_n 0, 1) := by decide +kernel
theorem dX12_isHome_6 : decode cX12_isHome 6 = .ok (.getfield 231, 3) := by decide +kernel
theorem dX12_isHome_9 : decode cX12_isHome 9 = .ok (.if_icmp .ge 64, 3) := by decide +kernel
theorem dX12_isHome_12 : decode cX12_isHome 12 = .ok (.iload_n 1, 1) := by decide +kernel
theorem dX12_isHome_13 : decode cX12_isHome 13 = .ok (.ifCond .eq 52, 3) := by decide +kernel
theorem dX12_isHome_16 : decode cX12_isHome 16 = .ok (.aload_n 0, 1) := by decide +kernel
theorem dX12_isHome_17 : decode cX12_isHome 17 = .ok (.getfield 71, 3) := by decide +kernel
theorem dX12_isHome_20 : decode cX12_isHome 20 = .ok (.iload_n 2, 1) := by decide +kernel
theorem dX12_isHome_21 : decode cX12_isHome 21 = .ok (.iaload, 1) := by decide +kernel
theorem dX12_isHome_22 : decode cX12_isHome 22 = .ok (.aload_n 0, 1) := by decide +kernel
theorem dX12_isHome_23 : decode cX12_isHome 23 = .ok (.getfield 83, 3) := by decide +kernel
theorem dX12_isHome_26 : decode cX12_isHome 26 = .ok (.iload_n 2, 1) := by decide +kernel
theorem dX12_isHome_27 : decode cX12_isHome 27 = .ok (.iaload, 1) := by decide +kernel
theorem dX12_isHome_28 : decode cX12_isHome 28 = .ok (.if_icmp .ne 37, 3) := by decide +kernel
theorem dX12_isHome_31 : decode cX12_isHome 31 = .ok (.aload_n 0, 1) := by decide +kernel
theorem dX12_isHome_32 : decode cX12_isHome 32 = .ok (.getfield 74, 3) := by decide +kernel
theorem dX12_isHome_35 : decode cX12_isHome 35 = .ok (.iload_n 2, 1) := by decide +kernel
theorem dX12_isHome_36 : decode cX12_isHome 36 = .ok (.iaload, 1) := by decide +kernel
theorem dX12_isHome_37 : decode cX12_isHome 37 = .ok (.aload_n 0, 1) := by decide +kernel
theorem dX12_isHome_38 : decode cX12_isHome 38 = .ok (.getfield 86, 3) := by decide +kernel
theorem dX12_isHome_41 : decode cX12_isHome 41 = .ok (.iload_n 2, 1) := by decide +kernel
theorem dX12_isHome_42 : decode cX12_isHome 42 = .ok (.iaload, 1) := by decide +kernel
theorem dX12_isHome_43 : decode cX12_isHome 43 = .ok (.if_icmp .ne 22, 3) := by decide +kernel
theorem dX12_isHome_46 : decode cX12_isHome 46 = .ok (.aload_n 0, 1) := by decide +kernel
theorem dX12_isHome_47 : decode cX12_isHome 47 = .ok (.getfield 77, 3) := by decide +kernel
theorem dX12_isHome_50 : decode cX12_isHome 50 = .ok (.iload_n 2, 1) := by decide +kernel
theorem dX12_isHome_51 : decode cX12_isHome 51 = .ok (.iaload, 1) := by decide +kernel
theorem dX12_isHome_52 : decode cX12_isHome 52 = .ok (.aload_n 0, 1) := by decide +kernel
theorem dX12_isHome_53 : decode cX12_isHome 53 = .ok (.getfield 89, 3) := by decide +kernel
theorem dX12_isHome_56 : decode cX12_isHome 56 = .ok (.iload_n 2, 1) := by decide +kernel
theorem dX12_isHome_57 : decode cX12_isHome 57 = .ok (.iaload, 1) := by decide +kernel
theorem dX12_isHome_58 : decode cX12_isHome 58 = .ok (.if_icmp .ne 7, 3) := by decide +kernel
theorem dX12_isHome_61 : decode cX12_isHome 61 = .ok (.iconst 1, 1) := by decide +kernel
theorem dX12_isHome_62 : decode cX12_isHome 62 = .ok (.goto 4, 3) := by decide +kernel
theorem dX12_isHome_65 : decode cX12_isHome 65 = .ok (.iconst 0, 1) := by decide +kernel
theorem dX12_isHome_66 : decode cX12_isHome 66 = .ok (.istore_n 1, 1) := by decide +kernel
theorem dX12_isHome_67 : decode cX12_isHome 67 = .ok (.iinc 2 1, 3) := by decide +kernel
theorem dX12_isHome_70 : decode cX12_isHome 70 = .ok (.goto (-66), 3) := by decide +kernel
theorem dX12_isHome_73 : decode cX12_isHome 73 = .ok (.iload_n 1, 1) := by decide +kernel
theorem dX12_isHome_74 : decode cX12_isHome 74 = .ok (.ireturn, 1) := by decide +kernel
abbrev rm_c_X12_isHome : Room := { frames := 0, cells := 0, slots := 0, locals := 0 }
set_option maxHeartbeats 4000000 in
set_option maxRecDepth 100000 in
theorem c_X12_isHome (l : Launch) (E : cE) (h0 : Nat) (r : Nat → Nat) (g : Nat → Value) (mx : Nat → Int32) (my : Nat → Int32) (mw : Nat → Int32) (ex : Nat → Int32) (ey : Nat → Int32) (ew : Nat → Int32) (N : Nat) (hR : mOK r g) (hgn : g 37 = .int (nI N)) (hN : N ≤ 64) : cM l E yX12_isHome cX12_isHome 3 (some .boolean) rm_c_X12_isHome [.ref h0] [(h0, ob 12 (mfs g)), ((r 38), aI E 64 mx), ((r 39), aI E 64 my), ((r 40), aI E 64 mw), ((r 44), aI E 64 ex), ((r 45), aI E 64 ey), ((r 46), aI E 64 ew)] (qI E (fun (r : Int32) (_u : Unit) => (r = 1 ∧ ∀ d, d < N → mx d = ex d ∧ my d = ey d ∧ mw d = ew d) ∨ (r = 0 ∧ ∃ d, d < N ∧ ¬ (mx d = ex d ∧ my d = ey d ∧ mw d = ew d))) (fun _ => [(h0, ob 12 (mfs g)), ((r 38), aI E 64 mx), ((r 39), aI E 64 my), ((r 40), aI E 64 mw), ((r 44), aI E 64 ex), ((r 45), aI E 64 ey), ((r 46), aI E 64 ew)])) := by
  refine cM_of (by decide) (Nat.le_of_ble_eq_true rfl) ?_
  intro p e s m below meth c ls A F hA hS hP hD hK hZ hl
  obtain ⟨hx, hb, hr, hml, hown, hts, hlk, hin⟩ := id F
  have hown : s.vm.findClass RX12 = some m.cls := hown
  have hl : lv_has ls 3 [(0, .ref h0)] := hl
  refine lv_iconst (v := nI 1) hx hb dX12_isHome_0 (by decide) ?_
  refine lv_istore_n (lv' := [(1, .int (nI 1)), (0, .ref h0)]) hx hb dX12_isHome_1 rfl hl (by decide) rfl (fun ls hl => ?_)
  refine lv_iconst (v := nI 0) hx hb dX12_isHome_2 (by decide) ?_
  refine lv_istore_n (lv' := [(2, .int (nI 0)), (1, .int (nI 1)), (0, .ref h0)]) hx hb dX12_isHome_3 rfl hl (by decide) rfl (fun ls hl => ?_)
  have lp : ∀ (n_lp : Nat) (i : Nat) (b : Nat) (hn : N + 1 ≤ i + n_lp) (hi : i ≤ N) (hb9 : (b = 1 ∧ ∀ d, d < i → mx d = ex d ∧ my d = ey d ∧ mw d = ew d) ∨ (b = 0 ∧ ∃ d, d < i ∧ ¬ (mx d = ex d ∧ my d = ey d ∧ mw d = ew d))) (H : Heap) (locs : List Loc) (ls : Array Slot), va_P E.1 vwCl [(h0, ob 12 (mfs g)), ((r 38), aI E 64 mx), ((r 39), aI E 64 my), ((r 40), aI E 64 mw), ((r 44), aI E 64 ex), ((r 45), aI E 64 ey), ((r 46), aI E 64 ew)] H → va_D A [(h0, ob 12 (mfs g)), ((r 38), aI E 64 mx), ((r 39), aI E 64 my), ((r 40), aI E 64 mw), ((r 44), aI E 64 ex), ((r 45), aI E 64 ey), ((r 46), aI E 64 ew)] → va_S A s.heap H locs → lv_has ls 3 [(0, .ref h0), (1, .int (nI b)), (2, .int (nI i))] → W p l e rm_c_X12_isHome s m ([.ref h0] : List Value).toArray below meth c H locs 0 0 (MQ below ((qI E (fun (r : Int32) (_u : Unit) => (r = 1 ∧ ∀ d, d < N → mx d = ex d ∧ my d = ey d ∧ mw d = ew d) ∨ (r = 0 ∧ ∃ d, d < N ∧ ¬ (mx d = ex d ∧ my d = ey d ∧ mw d = ew d))) (fun _ => [(h0, ob 12 (mfs g)), ((r 38), aI E 64 mx), ((r 39), aI E 64 my), ((r 40), aI E 64 mw), ((r 44), aI E 64 ex), ((r 45), aI E 64 ey), ((r 46), aI E 64 ew)])) A) ([.ref h0] : List Value).toArray s (rm_c_X12_isHome).cells (rm_c_X12_isHome).slots A) (F0 m 4 ls []) := by
    intro n_lp
    induction n_lp with
    | zero =>
      intro i b hn hi hb9
      exfalso; omega
    | succ n_lp ih_lp =>
      intro i b hn hi hb9 H locs ls hP hD hS hl
      refine lv_iload_n hx hb dX12_isHome_4 rfl (lv_at hl 2 rfl) ?_
      refine lv_aload_n hx hb dX12_isHome_5 rfl (lv_at hl 0 rfl) ?_
      refine va_get (D := E.1) (ci := 12) (v := .int (nI N)) (C := RX12) (T := TX12) (N := 116) hx hb hts iX12 hown hK hP 0 rfl rfl 37 (by decide) (hts _ wdF_RX12_231) (fun _ h9 => h9) ((mfs_get _ 37 (by decide)).trans (congrArg some (show (g) 37 = .int (nI N) from hgn))) dX12_isHome_6 ?_
      refine lv_icmp_ge (tgt := 73) hx hb dX12_isHome_9 (by decide) (fun c1 => ?_) (fun c1 => ?_)
      · have c2 : N ≤ i := (nI_leI (by omega) (by omega)).mp c1
        obtain rfl : i = N := by omega
        refine lv_iload_n hx hb dX12_isHome_73 rfl (lv_at hl 1 rfl) ?_
        exact cB_ret F hP hD hS hK (hb9.elim (fun h => Or.inr (by rw [h.1]; rfl)) (fun h => Or.inl (by rw [h.1]; rfl))) () (hb9.imp (fun h => ⟨by rw [h.1]; rfl, h.2⟩) (fun h => ⟨by rw [h.1]; rfl, h.2⟩)) [0, 1, 2, 3, 4, 5, 6] rfl rfl dX12_isHome_74 (by decide) (by decide)
      · have c2 : i < N := Nat.lt_of_not_le (fun h => c1 (nI_le h (by omega)))
        refine lv_iload_n hx hb dX12_isHome_12 rfl (lv_at hl 1 rfl) ?_
        rcases hb9 with ⟨rfl, hb9⟩ | ⟨rfl, hb9⟩
        · refine lv_if_eq (tgt := 65) hx hb dX12_isHome_13 (by decide) (fun c_373 => absurd c_373 (by decide)) (fun c_373 => ?_)
          refine lv_aload_n hx hb dX12_isHome_16 rfl (lv_at hl 0 rfl) ?_
          refine va_get (D := E.1) (ci := 12) (v := .ref (r 38)) (C := RX12) (T := TX12) (N := 116) hx hb hts iX12 hown hK hP 0 rfl rfl 38 (by decide) (hts _ wdF_RX12_71) (fun _ h9 => h9) ((mfs_get _ 38 (by decide)).trans (congrArg some (show (g) 38 = .ref (r 38) from (hR 38 rfl)))) dX12_isHome_17 ?_
          refine lv_iload_n hx hb dX12_isHome_20 rfl (lv_at hl 2 rfl) ?_
          refine va_iald hx hb hK hP 1 1 rfl rfl (vp_in_nI (by omega) (by decide)) dX12_isHome_21 ?_
          rw [nI_clamp (n := i) (by omega)]
          refine lv_aload_n hx hb dX12_isHome_22 rfl (lv_at hl 0 rfl) ?_
          refine va_get (D := E.1) (ci := 12) (v := .ref (r 44)) (C := RX12) (T := TX12) (N := 116) hx hb hts iX12 hown hK hP 0 rfl rfl 44 (by decide) (hts _ wdF_RX12_83) (fun _ h9 => h9) ((mfs_get _ 44 (by decide)).trans (congrArg some (show (g) 44 = .ref (r 44) from (hR 44 rfl)))) dX12_isHome_23 ?_
          refine lv_iload_n hx hb dX12_isHome_26 rfl (lv_at hl 2 rfl) ?_
          refine va_iald hx hb hK hP 4 1 rfl rfl (vp_in_nI (by omega) (by decide)) dX12_isHome_27 ?_
          rw [nI_clamp (n := i) (by omega)]
          refine lv_icmp_ne (tgt := 65) hx hb dX12_isHome_28 (by decide) (fun e0 => ?_) (fun e0 => ?_)
          · refine lv_iconst (v := nI 0) hx hb dX12_isHome_65 (by decide) ?_
            refine lv_istore_n (lv' := [(1, .int (nI 0)), (0, .ref h0), (2, .int (nI i))]) hx hb dX12_isHome_66 rfl hl (by decide) rfl (fun ls hl => ?_)
            refine lv_iinc (v := nI (i + 1)) (lv' := [(2, .int (nI (i + 1))), (1, .int (nI 0)), (0, .ref h0)]) hx hb dX12_isHome_67 hl (k := 2) rfl (nI_1 i) (by decide) rfl (fun ls hl => ?_)
            refine lv_goto (tgt := 4) hx hb dX12_isHome_70 (by decide) ?_
            exact ih_lp (i + 1) 0 (by omega) (by omega) (Or.inr ⟨rfl, i, by omega, fun h => e0 h.1⟩) _ _ _ hP hD hS (lv_sub hl [2, 1, 0] rfl)
          · refine lv_aload_n hx hb dX12_isHome_31 rfl (lv_at hl 0 rfl) ?_
            refine va_get (D := E.1) (ci := 12) (v := .ref (r 39)) (C := RX12) (T := TX12) (N := 116) hx hb hts iX12 hown hK hP 0 rfl rfl 39 (by decide) (hts _ wdF_RX12_74) (fun _ h9 => h9) ((mfs_get _ 39 (by decide)).trans (congrArg some (show (g) 39 = .ref (r 39) from (hR 39 rfl)))) dX12_isHome_32 ?_
            refine lv_iload_n hx hb dX12_isHome_35 rfl (lv_at hl 2 rfl) ?_
            refine va_iald hx hb hK hP 2 1 rfl rfl (vp_in_nI (by omega) (by decide)) dX12_isHome_36 ?_
            rw [nI_clamp (n := i) (by omega)]
            refine lv_aload_n hx hb dX12_isHome_37 rfl (lv_at hl 0 rfl) ?_
            refine va_get (D := E.1) (ci := 12) (v := .ref (r 45)) (C := RX12) (T := TX12) (N := 116) hx hb hts iX12 hown hK hP 0 rfl rfl 45 (by decide) (hts _ wdF_RX12_86) (fun _ h9 => h9) ((mfs_get _ 45 (by decide)).trans (congrArg some (show (g) 45 = .ref (r 45) from (hR 45 rfl)))) dX12_isHome_38 ?_
            refine lv_iload_n hx hb dX12_isHome_41 rfl (lv_at hl 2 rfl) ?_
            refine va_iald hx hb hK hP 5 1 rfl rfl (vp_in_nI (by omega) (by decide)) dX12_isHome_42 ?_
            rw [nI_clamp (n := i) (by omega)]
            refine lv_icmp_ne (tgt := 65) hx hb dX12_isHome_43 (by decide) (fun e1 => ?_) (fun e1 => ?_)
            · refine lv_iconst (v := nI 0) hx hb dX12_isHome_65 (by decide) ?_
              refine lv_istore_n (lv' := [(1, .int (nI 0)), (0, .ref h0), (2, .int (nI i))]) hx hb dX12_isHome_66 rfl hl (by decide) rfl (fun ls hl => ?_)
              refine lv_iinc (v := nI (i + 1)) (lv' := [(2, .int (nI (i + 1))), (1, .int (nI 0)), (0, .ref h0)]) hx hb dX12_isHome_67 hl (k := 2) rfl (nI_1 i) (by decide) rfl (fun ls hl => ?_)
              refine lv_goto (tgt := 4) hx hb dX12_isHome_70 (by decide) ?_
              exact ih_lp (i + 1) 0 (by omega) (by omega) (Or.inr ⟨rfl, i, by omega, fun h => e1 h.2.1⟩) _ _ _ hP hD hS (lv_sub hl [2, 1, 0] rfl)
            · refine lv_aload_n hx hb dX12_isHome_46 rfl (lv_at hl 0 rfl) ?_
              refine va_get (D := E.1) (ci := 12) (v := .ref (r 40)) (C := RX12) (T := TX12) (N := 116) hx hb hts iX12 hown hK hP 0 rfl rfl 40 (by decide) (hts _ wdF_RX12_77) (fun _ h9 => h9) ((mfs_get _ 40 (by decide)).trans (congrArg some (show (g) 40 = .ref (r 40) from (hR 40 rfl)))) dX12_isHome_47 ?_
              refine lv_iload_n hx hb dX12_isHome_50 rfl (lv_at hl 2 rfl) ?_
              refine va_iald hx hb hK hP 3 1 rfl rfl (vp_in_nI (by omega) (by decide)) dX12_isHome_51 ?_
              rw [nI_clamp (n := i) (by omega)]
              refine lv_aload_n hx hb dX12_isHome_52 rfl (lv_at hl 0 rfl) ?_
              refine va_get (D := E.1) (ci := 12) (v := .ref (r 46)) (C := RX12) (T := TX12) (N := 116) hx hb hts iX12 hown hK hP 0 rfl rfl 46 (by decide) (hts _ wdF_RX12_89) (fun _ h9 => h9) ((mfs_get _ 46 (by decide)).trans (congrArg some (show (g) 46 = .ref (r 46) from (hR 46 rfl)))) dX12_isHome_53 ?_
              refine lv_iload_n hx hb dX12_isHome_56 rfl (lv_at hl 2 rfl) ?_
              refine va_iald hx hb hK hP 6 1 rfl rfl (vp_in_nI (by omega) (by decide)) dX12_isHome_57 ?_
              rw [nI_clamp (n := i) (by omega)]
              refine lv_icmp_ne (tgt := 65) hx hb dX12_isHome_58 (by decide) (fun e2 => ?_) (fun e2 => ?_)
              · refine lv_iconst (v := nI 0) hx hb dX12_isHome_65 (by decide) ?_
                refine lv_istore_n (lv' := [(1, .int (nI 0)), (0, .ref h0), (2, .int (nI i))]) hx hb dX12_isHome_66 rfl hl (by decide) rfl (fun ls hl => ?_)
                refine lv_iinc (v := nI (i + 1)) (lv' := [(2, .int (nI (i + 1))), (1, .int (nI 0)), (0, .ref h0)]) hx hb dX12_isHome_67 hl (k := 2) rfl (nI_1 i) (by decide) rfl (fun ls hl => ?_)
                refine lv_goto (tgt := 4) hx hb dX12_isHome_70 (by decide) ?_
                exact ih_lp (i + 1) 0 (by omega) (by omega) (Or.inr ⟨rfl, i, by omega, fun h => e2 h.2.2⟩) _ _ _ hP hD hS (lv_sub hl [2, 1, 0] rfl)
              · refine lv_iconst (v := nI 1) hx hb dX12_isHome_61 (by decide) ?_
                refine lv_goto (tgt := 66) hx hb dX12_isHome_62 (by decide) ?_
                refine lv_istore_n (lv' := [(1, .int (nI 1)), (0, .ref h0), (2, .int (nI i))]) hx hb dX12_isHome_66 rfl hl (by decide) rfl (fun ls hl => ?_)
                refine lv_iinc (v := nI (i + 1)) (lv' := [(2, .int (nI (i + 1))), (1, .int (nI 1)), (0, .ref h0)]) hx hb dX12_isHome_67 hl (k := 2) rfl (nI_1 i) (by decide) rfl (fun ls hl => ?_)
                refine lv_goto (tgt := 4) hx hb dX12_isHome_70 (by decide) ?_
                exact ih_lp (i + 1) 1 (by omega) (by omega) (Or.inl ⟨rfl, fun d hd => (Decidable.em (d = i)).elim (fun h => by rw [h]; exact ⟨e0, e1, e2⟩) (fun h => hb9 d (by omega))⟩) _ _ _ hP hD hS (lv_sub hl [2, 1, 0] rfl)
        · refine lv_if_eq (tgt := 65) hx hb dX12_isHome_13 (by decide) (fun c_372 => ?_) (fun c_372 => absurd (by decide) c_372)
          refine lv_iconst (v := nI 0) hx hb dX12_isHome_65 (by decide) ?_
          refine lv_istore_n (lv' := [(1, .int (nI 0)), (0, .ref h0), (2, .int (nI i))]) hx hb dX12_isHome_66 rfl hl (by decide) rfl (fun ls hl => ?_)
          refine lv_iinc (v := nI (i + 1)) (lv' := [(2, .int (nI (i + 1))), (1, .int (nI 0)), (0, .ref h0)]) hx hb dX12_isHome_67 hl (k := 2) rfl (nI_1 i) (by decide) rfl (fun ls hl => ?_)
          refine lv_goto (tgt := 4) hx hb dX12_isHome_70 (by decide) ?_
          exact ih_lp (i + 1) 0 (by omega) (by omega) (Or.inr ⟨rfl, hb9.elim (fun d h => ⟨d, by omega, h.2⟩)⟩) _ _ _ hP hD hS (lv_sub hl [2, 1, 0] rfl)
  exact lp (N + 1) 0 1 (by omega) (by omega) (Or.inl ⟨rfl, fun d h => absurd h (by omega)⟩) _ _ _ hP hD hS (lv_sub hl [2, 1, 0] rfl)
theorem yy_X12_isHome : cY yX12_isHome cX12_isHome 3 (some .boolean) 0 := ⟨wdK_X12_isHome, wdZ_RX12, by decide +kernel⟩
theorem yi_X12_isHome : cYi yX12_isHome := ⟨wdN_X12_isHome, wdS_X12_isHome⟩
theorem dX12_isAim_0 : decode cX12_isAim 0 = .ok (.iconst 1, 1) := by decide +kernel
theorem dX12_isAim_1 : decode cX12_isAim 1 = .ok (.istore_n 1, 1) := by decide +kernel
theorem dX12_isAim_2 : decode cX12_isAim 2 = .ok (.iconst 0, 1) := by decide +kernel
theorem dX12_isAim_3 : decode cX12_isAim 3 = .ok (.istore_n 2, 1) := by decide +kernel
theorem dX12_isAim_4 : decode cX12_isAim 4 = .ok (.iload_n 2, 1) := by decide +kernel
theorem dX12_isAim_5 : decode cX12_isAim 5 = .ok (.aload_n 0, 1) := by decide +kernel
theorem dX12_isAim_6 : decode cX12_isAim 6 = .ok (.getfield 231, 3) := by decide +kernel
theorem dX12_isAim_9 : decode cX12_isAim 9 = .ok (.if_icmp .ge 64, 3) := by decide +kernel
theorem dX12_isAim_12 : decode cX12_isAim 12 = .ok (.iload_n 1, 1) := by decide +kernel
theorem dX12_isAim_13 : decode cX12_isAim 13 = .ok (.ifCond .eq 52, 3) := by decide +kernel
theorem dX12_isAim_16 : decode cX12_isAim 16 = .ok (.aload_n 0, 1) := by decide +kernel
theorem dX12_isAim_17 : decode cX12_isAim 17 = .ok (.getfield 71, 3) := by decide +kernel
theorem dX12_isAim_20 : decode cX12_isAim 20 = .ok (.iload_n 2, 1) := by decide +kernel
theorem dX12_isAim_21 : decode cX12_isAim 21 = .ok (.iaload, 1) := by decide +kernel
theorem dX12_isAim_22 : decode cX12_isAim 22 = .ok (.aload_n 0, 1) := by decide +kernel
theorem dX12_isAim_23 : decode cX12_isAim 23 = .ok (.getfield 92, 3) := by decide +kernel
theorem dX12_isAim_26 : decode cX12_isAim 26 = .ok (.iload_n 2, 1) := by decide +kernel
theorem dX12_isAim_27 : decode cX12_isAim 27 = .ok (.iaload, 1) := by decide +kernel
theorem dX12_isAim_28 : decode cX12_isAim 28 = .ok (.if_icmp .ne 37, 3) := by decide +kernel
theorem dX12_isAim_31 : decode cX12_isAim 31 = .ok (.aload_n 0, 1) := by decide +kernel
theorem dX12_isAim_32 : decode cX12_isAim 32 = .ok (.getfield 74, 3) := by decide +kernel
theorem dX12_isAim_35 : decode cX12_isAim 35 = .ok (.iload_n 2, 1) := by decide +kernel
theorem dX12_isAim_36 : decode cX12_isAim 36 = .ok (.iaload, 1) := by decide +kernel
theorem dX12_isAim_37 : decode cX12_isAim 37 = .ok (.aload_n 0, 1) := by decide +kernel
theorem dX12_isAim_38 : decode cX12_isAim 38 = .ok (.getfield 95, 3) := by decide +kernel
theorem dX12_isAim_41 : decode cX12_isAim 41 = .ok (.iload_n 2, 1) := by decide +kernel
theorem dX12_isAim_42 : decode cX12_isAim 42 = .ok (.iaload, 1) := by decide +kernel
theorem dX12_isAim_43 : decode cX12_isAim 43 = .ok (.if_icmp .ne 22, 3) := by decide +kernel
theorem dX12_isAim_46 : decode cX12_isAim 46 = .ok (.aload_n 0, 1) := by decide +kernel
theorem dX12_isAim_47 : decode cX12_isAim 47 = .ok (.getfield 77, 3) := by decide +kernel
theorem dX12_isAim_50 : decode cX12_isAim 50 = .ok (.iload_n 2, 1) := by decide +kernel
theorem dX12_isAim_51 : decode cX12_isAim 51 = .ok (.iaload, 1) := by decide +kernel
theorem dX12_isAim_52 : decode cX12_isAim 52 = .ok (.aload_n 0, 1) := by decide +kernel
theorem dX12_isAim_53 : decode cX12_isAim 53 = .ok (.getfield 98, 3) := by decide +kernel
theorem dX12_isAim_56 : decode cX12_isAim 56 = .ok (.iload_n 2, 1) := by decide +kernel
theorem dX12_isAim_57 : decode cX12_isAim 57 = .ok (.iaload, 1) := by decide +kernel
theorem dX12_isAim_58 : decode cX12_isAim 58 = .ok (.if_icmp .ne 7, 3) := by decide +kernel
theorem dX12_isAim_61 : decode cX12_isAim 61 = .ok (.iconst 1, 1) := by decide +kernel
theorem dX12_isAim_62 : decode cX12_isAim 62 = .ok (.goto 4, 3) := by decide +kernel
theorem dX12_isAim_65 : decode cX12_isAim 65 = .ok (.iconst 0, 1) := by decide +kernel
theorem dX12_isAim_66 : decode cX12_isAim 66 = .ok (.istore_n 1, 1) := by decide +kernel
theorem dX12_isAim_67 : decode cX12_isAim 67 = .ok (.iinc 2 1, 3) := by decide +kernel
theorem dX12_isAim_70 : decode cX12_isAim 70 = .ok (.goto (-66), 3) := by decide +kernel
theorem dX12_isAim_73 : decode cX12_isAim 73 = .ok (.iload_n 1, 1) := by decide +kernel
theorem dX12_isAim_74 : decode cX12_isAim 74 = .ok (.ireturn, 1) := by decide +kernel
abbrev rm_c_X12_isAim : Room := { frames := 0, cells := 0, slots := 0, locals := 0 }
set_option maxHeartbeats 4000000 in
set_option maxRecDepth 100000 in
theorem c_X12_isAim (l : Launch) (E : cE) (h0 : Nat) (r : Nat → Nat) (g : Nat → Value) (mx : Nat → Int32) (my : Nat → Int32) (mw : Nat → Int32) (ax : Nat → Int32) (ay : Nat → Int32) (aw : Nat → Int32) (N : Nat) (hR : mOK r g) (hgn : g 37 = .int (nI N)) (hN : N ≤ 64) : cM l E yX12_isAim cX12_isAim 3 (some .boolean) rm_c_X12_isAim [.ref h0] [(h0, ob 12 (mfs g)), ((r 38), aI E 64 mx), ((r 39), aI E 64 my), ((r 40), aI E 64 mw), ((r 47), aI E 64 ax), ((r 48), aI E 64 ay), ((r 49), aI E 64 aw)] (qI E (fun (r : Int32) (_u : Unit) => (r = 1 ∧ ∀ d, d < N → mx d = ax d ∧ my d = ay d ∧ mw d = aw d) ∨ (r = 0 ∧ ∃ d, d < N ∧ ¬ (mx d = ax d ∧ my d = ay d ∧ mw d = aw d))) (fun _ => [(h0, ob 12 (mfs g)), ((r 38), aI E 64 mx), ((r 39), aI E 64 my), ((r 40), aI E 64 mw), ((r 47), aI E 64 ax), ((r 48), aI E 64 ay), ((r 49), aI E 64 aw)])) := by
  refine cM_of (by decide) (Nat.le_of_ble_eq_true rfl) ?_
  intro p e s m below meth c ls A F hA hS hP hD hK hZ hl
  obtain ⟨hx, hb, hr, hml, hown, hts, hlk, hin⟩ := id F
  have hown : s.vm.findClass RX12 = some m.cls := hown
  have hl : lv_has ls 3 [(0, .ref h0)] := hl
  refine lv_iconst (v := nI 1) hx hb dX12_isAim_0 (by decide) ?_
  refine lv_istore_n (lv' := [(1, .int (nI 1)), (0, .ref h0)]) hx hb dX12_isAim_1 rfl hl (by decide) rfl (fun ls hl => ?_)
  refine lv_iconst (v := nI 0) hx hb dX12_isAim_2 (by decide) ?_
  refine lv_istore_n (lv' := [(2, .int (nI 0)), (1, .int (nI 1)), (0, .ref h0)]) hx hb dX12_isAim_3 rfl hl (by decide) rfl (fun ls hl => ?_)
  have lp : ∀ (n_lp : Nat) (i : Nat) (b : Nat) (hn : N + 1 ≤ i + n_lp) (hi : i ≤ N) (hb9 : (b = 1 ∧ ∀ d, d < i → mx d = ax d ∧ my d = ay d ∧ mw d = aw d) ∨ (b = 0 ∧ ∃ d, d < i ∧ ¬ (mx d = ax d ∧ my d = ay d ∧ mw d = aw d))) (H : Heap) (locs : List Loc) (ls : Array Slot), va_P E.1 vwCl [(h0, ob 12 (mfs g)), ((r 38), aI E 64 mx), ((r 39), aI E 64 my), ((r 40), aI E 64 mw), ((r 47), aI E 64 ax), ((r 48), aI E 64 ay), ((r 49), aI E 64 aw)] H → va_D A [(h0, ob 12 (mfs g)), ((r 38), aI E 64 mx), ((r 39), aI E 64 my), ((r 40), aI E 64 mw), ((r 47), aI E 64 ax), ((r 48), aI E 64 ay), ((r 49), aI E 64 aw)] → va_S A s.heap H locs → lv_has ls 3 [(0, .ref h0), (1, .int (nI b)), (2, .int (nI i))] → W p l e rm_c_X12_isAim s m ([.ref h0] : List Value).toArray below meth c H locs 0 0 (MQ below ((qI E (fun (r : Int32) (_u : Unit) => (r = 1 ∧ ∀ d, d < N → mx d = ax d ∧ my d = ay d ∧ mw d = aw d) ∨ (r = 0 ∧ ∃ d, d < N ∧ ¬ (mx d = ax d ∧ my d = ay d ∧ mw d = aw d))) (fun _ => [(h0, ob 12 (mfs g)), ((r 38), aI E 64 mx), ((r 39), aI E 64 my), ((r 40), aI E 64 mw), ((r 47), aI E 64 ax), ((r 48), aI E 64 ay), ((r 49), aI E 64 aw)])) A) ([.ref h0] : List Value).toArray s (rm_c_X12_isAim).cells (rm_c_X12_isAim).slots A) (F0 m 4 ls []) := by
    intro n_lp
    induction n_lp with
    | zero =>
      intro i b hn hi hb9
      exfalso; omega
    | succ n_lp ih_lp =>
      intro i b hn hi hb9 H locs ls hP hD hS hl
      refine lv_iload_n hx hb dX12_isAim_4 rfl (lv_at hl 2 rfl) ?_
      refine lv_aload_n hx hb dX12_isAim_5 rfl (lv_at hl 0 rfl) ?_
      refine va_get (D := E.1) (ci := 12) (v := .int (nI N)) (C := RX12) (T := TX12) (N := 116) hx hb hts iX12 hown hK hP 0 rfl rfl 37 (by decide) (hts _ wdF_RX12_231) (fun _ h9 => h9) ((mfs_get _ 37 (by decide)).trans (congrArg some (show (g) 37 = .int (nI N) from hgn))) dX12_isAim_6 ?_
      refine lv_icmp_ge (tgt := 73) hx hb dX12_isAim_9 (by decide) (fun c1 => ?_) (fun c1 => ?_)
      · have c2 : N ≤ i := (nI_leI (by omega) (by omega)).mp c1
        obtain rfl : i = N := by omega
        refine lv_iload_n hx hb dX12_isAim_73 rfl (lv_at hl 1 rfl) ?_
        exact cB_ret F hP hD hS hK (hb9.elim (fun h => Or.inr (by rw [h.1]; rfl)) (fun h => Or.inl (by rw [h.1]; rfl))) () (hb9.imp (fun h => ⟨by rw [h.1]; rfl, h.2⟩) (fun h => ⟨by rw [h.1]; rfl, h.2⟩)) [0, 1, 2, 3, 4, 5, 6] rfl rfl dX12_isAim_74 (by decide) (by decide)
      · have c2 : i < N := Nat.lt_of_not_le (fun h => c1 (nI_le h (by omega)))
        refine lv_iload_n hx hb dX12_isAim_12 rfl (lv_at hl 1 rfl) ?_
        rcases hb9 with ⟨rfl, hb9⟩ | ⟨rfl, hb9⟩
        · refine lv_if_eq (tgt := 65) hx hb dX12_isAim_13 (by decide) (fun c_375 => absurd c_375 (by decide)) (fun c_375 => ?_)
          refine lv_aload_n hx hb dX12_isAim_16 rfl (lv_at hl 0 rfl) ?_
          refine va_get (D := E.1) (ci := 12) (v := .ref (r 38)) (C := RX12) (T := TX12) (N := 116) hx hb hts iX12 hown hK hP 0 rfl rfl 38 (by decide) (hts _ wdF_RX12_71) (fun _ h9 => h9) ((mfs_get _ 38 (by decide)).trans (congrArg some (show (g) 38 = .ref (r 38) from (hR 38 rfl)))) dX12_isAim_17 ?_
          refine lv_iload_n hx hb dX12_isAim_20 rfl (lv_at hl 2 rfl) ?_
          refine va_iald hx hb hK hP 1 1 rfl rfl (vp_in_nI (by omega) (by decide)) dX12_isAim_21 ?_
          rw [nI_clamp (n := i) (by omega)]
          refine lv_aload_n hx hb dX12_isAim_22 rfl (lv_at hl 0 rfl) ?_
          refine va_get (D := E.1) (ci := 12) (v := .ref (r 47)) (C := RX12) (T := TX12) (N := 116) hx hb hts iX12 hown hK hP 0 rfl rfl 47 (by decide) (hts _ wdF_RX12_92) (fun _ h9 => h9) ((mfs_get _ 47 (by decide)).trans (congrArg some (show (g) 47 = .ref (r 47) from (hR 47 rfl)))) dX12_isAim_23 ?_
          refine lv_iload_n hx hb dX12_isAim_26 rfl (lv_at hl 2 rfl) ?_
          refine va_iald hx hb hK hP 4 1 rfl rfl (vp_in_nI (by omega) (by decide)) dX12_isAim_27 ?_
          rw [nI_clamp (n := i) (by omega)]
          refine lv_icmp_ne (tgt := 65) hx hb dX12_isAim_28 (by decide) (fun e0 => ?_) (fun e0 => ?_)
          · refine lv_iconst (v := nI 0) hx hb dX12_isAim_65 (by decide) ?_
            refine lv_istore_n (lv' := [(1, .int (nI 0)), (0, .ref h0), (2, .int (nI i))]) hx hb dX12_isAim_66 rfl hl (by decide) rfl (fun ls hl => ?_)
            refine lv_iinc (v := nI (i + 1)) (lv' := [(2, .int (nI (i + 1))), (1, .int (nI 0)), (0, .ref h0)]) hx hb dX12_isAim_67 hl (k := 2) rfl (nI_1 i) (by decide) rfl (fun ls hl => ?_)
            refine lv_goto (tgt := 4) hx hb dX12_isAim_70 (by decide) ?_
            exact ih_lp (i + 1) 0 (by omega) (by omega) (Or.inr ⟨rfl, i, by omega, fun h => e0 h.1⟩) _ _ _ hP hD hS (lv_sub hl [2, 1, 0] rfl)
          · refine lv_aload_n hx hb dX12_isAim_31 rfl (lv_at hl 0 rfl) ?_
            refine va_get (D := E.1) (ci := 12) (v := .ref (r 39)) (C := RX12) (T := TX12) (N := 116) hx hb hts iX12 hown hK hP 0 rfl rfl 39 (by decide) (hts _ wdF_RX12_74) (fun _ h9 => h9) ((mfs_get _ 39 (by decide)).trans (congrArg some (show (g) 39 = .ref (r 39) from (hR 39 rfl)))) dX12_isAim_32 ?_
            refine lv_iload_n hx hb dX12_isAim_35 rfl (lv_at hl 2 rfl) ?_
            refine va_iald hx hb hK hP 2 1 rfl rfl (vp_in_nI (by omega) (by decide)) dX12_isAim_36 ?_
            rw [nI_clamp (n := i) (by omega)]
            refine lv_aload_n hx hb dX12_isAim_37 rfl (lv_at hl 0 rfl) ?_
            refine va_get (D := E.1) (ci := 12) (v := .ref (r 48)) (C := RX12) (T := TX12) (N := 116) hx hb hts iX12 hown hK hP 0 rfl rfl 48 (by decide) (hts _ wdF_RX12_95) (fun _ h9 => h9) ((mfs_get _ 48 (by decide)).trans (congrArg some (show (g) 48 = .ref (r 48) from (hR 48 rfl)))) dX12_isAim_38 ?_
            refine lv_iload_n hx hb dX12_isAim_41 rfl (lv_at hl 2 rfl) ?_
            refine va_iald hx hb hK hP 5 1 rfl rfl (vp_in_nI (by omega) (by decide)) dX12_isAim_42 ?_
            rw [nI_clamp (n := i) (by omega)]
            refine lv_icmp_ne (tgt := 65) hx hb dX12_isAim_43 (by decide) (fun e1 => ?_) (fun e1 => ?_)
            · refine lv_iconst (v := nI 0) hx hb dX12_isAim_65 (by decide) ?_
              refine lv_istore_n (lv' := [(1, .int (nI 0)), (0, .ref h0), (2, .int (nI i))]) hx hb dX12_isAim_66 rfl hl (by decide) rfl (fun ls hl => ?_)
              refine lv_iinc (v := nI (i + 1)) (lv' := [(2, .int (nI (i + 1))), (1, .int (nI 0)), (0, .ref h0)]) hx hb dX12_isAim_67 hl (k := 2) rfl (nI_1 i) (by decide) rfl (fun ls hl => ?_)
              refine lv_goto (tgt := 4) hx hb dX12_isAim_70 (by decide) ?_
              exact ih_lp (i + 1) 0 (by omega) (by omega) (Or.inr ⟨rfl, i, by omega, fun h => e1 h.2.1⟩) _ _ _ hP hD hS (lv_sub hl [2, 1, 0] rfl)
            · refine lv_aload_n hx hb dX12_isAim_46 rfl (lv_at hl 0 rfl) ?_
              refine va_get (D := E.1) (ci := 12) (v := .ref (r 40)) (C := RX12) (T := TX12) (N := 116) hx hb hts iX12 hown hK hP 0 rfl rfl 40 (by decide) (hts _ wdF_RX12_77) (fun _ h9 => h9) ((mfs_get _ 40 (by decide)).trans (congrArg some (show (g) 40 = .ref (r 40) from (hR 40 rfl)))) dX12_isAim_47 ?_
              refine lv_iload_n hx hb dX12_isAim_50 rfl (lv_at hl 2 rfl) ?_
              refine va_iald hx hb hK hP 3 1 rfl rfl (vp_in_nI (by omega) (by decide)) dX12_isAim_51 ?_
              rw [nI_clamp (n := i) (by omega)]
              refine lv_aload_n hx hb dX12_isAim_52 rfl (lv_at hl 0 rfl) ?_
              refine va_get (D := E.1) (ci := 12) (v := .ref (r 49)) (C := RX12) (T := TX12) (N := 116) hx hb hts iX12 hown hK hP 0 rfl rfl 49 (by decide) (hts _ wdF_RX12_98) (fun _ h9 => h9) ((mfs_get _ 49 (by decide)).trans (congrArg some (show (g) 49 = .ref (r 49) from (hR 49 rfl)))) dX12_isAim_53 ?_
              refine lv_iload_n hx hb dX12_isAim_56 rfl (lv_at hl 2 rfl) ?_
              refine va_iald hx hb hK hP 6 1 rfl rfl (vp_in_nI (by omega) (by decide)) dX12_isAim_57 ?_
              rw [nI_clamp (n := i) (by omega)]
              refine lv_icmp_ne (tgt := 65) hx hb dX12_isAim_58 (by decide) (fun e2 => ?_) (fun e2 => ?_)
              · refine lv_iconst (v := nI 0) hx hb dX12_isAim_65 (by decide) ?_
                refine lv_istore_n (lv' := [(1, .int (nI 0)), (0, .ref h0), (2, .int (nI i))]) hx hb dX12_isAim_66 rfl hl (by decide) rfl (fun ls hl => ?_)
                refine lv_iinc (v := nI (i + 1)) (lv' := [(2, .int (nI (i + 1))), (1, .int (nI 0)), (0, .ref h0)]) hx hb dX12_isAim_67 hl (k := 2) rfl (nI_1 i) (by decide) rfl (fun ls hl => ?_)
                refine lv_goto (tgt := 4) hx hb dX12_isAim_70 (by decide) ?_
                exact ih_lp (i + 1) 0 (by omega) (by omega) (Or.inr ⟨rfl, i, by omega, fun h => e2 h.2.2⟩) _ _ _ hP hD hS (lv_sub hl [2, 1, 0] rfl)
              · refine lv_iconst (v := nI 1) hx hb dX12_isAim_61 (by decide) ?_
                refine lv_goto (tgt := 66) hx hb dX12_isAim_62 (by decide) ?_
                refine lv_istore_n (lv' := [(1, .int (nI 1)), (0, .ref h0), (2, .int (nI i))]) hx hb dX12_isAim_66 rfl hl (by decide) rfl (fun ls hl => ?_)
                refine lv_iinc (v := nI (i + 1)) (lv' := [(2, .int (nI (i + 1))), (1, .int (nI 1)), (0, .ref h0)]) hx hb dX12_isAim_67 hl (k := 2) rfl (nI_1 i) (by decide) rfl (fun ls hl => ?_)
                refine lv_goto (tgt := 4) hx hb dX12_isAim_70 (by decide) ?_
                exact ih_lp (i + 1) 1 (by omega) (by omega) (Or.inl ⟨rfl, fun d hd => (Decidable.em (d = i)).elim (fun h => by rw [h]; exact ⟨e0, e1, e2⟩) (fun h => hb9 d (by omega))⟩) _ _ _ hP hD hS (lv_sub hl [2, 1, 0] rfl)
        · refine lv_if_eq (tgt := 65) hx hb dX12_isAim_13 (by decide) (fun c_374 => ?_) (fun c_374 => absurd (by decide) c_374)
          refine lv_iconst (v := nI 0) hx hb dX12_isAim_65 (by decide) ?_
          refine lv_istore_n (lv' := [(1, .int (nI 0)), (0, .ref h0), (2, .int (nI i))]) hx hb dX12_isAim_66 rfl hl (by decide) rfl (fun ls hl => ?_)
          refine lv_iinc (v := nI (i + 1)) (lv' := [(2, .int (nI (i + 1))), (1, .int (nI 0)), (0, .ref h0)]) hx hb dX12_isAim_67 hl (k := 2) rfl (nI_1 i) (by decide) rfl (fun ls hl => ?_)
          refine lv_goto (tgt := 4) hx hb dX12_isAim_70 (by decide) ?_
          exact ih_lp (i + 1) 0 (by omega) (by omega) (Or.inr ⟨rfl, hb9.elim (fun d h => ⟨d, by omega, h.2⟩)⟩) _ _ _ hP hD hS (lv_sub hl [2, 1, 0] rfl)
  exact lp (N + 1) 0 1 (by omega) (by omega) (Or.inl ⟨rfl, fun d h => absurd h (by omega)⟩) _ _ _ hP hD hS (lv_sub hl [2, 1, 0] rfl)
theorem yy_X12_isAim : cY yX12_isAim cX12_isAim 3 (some .boolean) 0 := ⟨wdK_X12_isAim, wdZ_RX12, by decide +kernel⟩
theorem yi_X12_isAim : cYi yX12_isAim := ⟨wdN_X12_isAim, wdS_X12_isAim⟩
theorem dnc_no {v u : Int32} (h : ¬ (nI 0 ≤ v ∧ v ≤ nI 7)) : dncF v u = -1 := by
  unfold dncF
  by_cases c1 : v < 0
  · rw [if_pos c1]
  · rw [if_neg c1]
    by_cases c2 : nI (2 * 4) ≤ v
    · rw [if_pos c2]
    · refine absurd ⟨Int32.not_lt.mp c1, ?_⟩ h
      rcases pk_ix v (show 8 < 2 ^ 31 by decide) with q | q | ⟨j, q1, q2⟩
      · exact absurd q c1
      · exact absurd q c2
      · rw [q2]; exact nI_le (by omega) (by decide)
theorem dnc_yes {j : Nat} (hj : j ≤ 7) (u : Int32) : dncF (nI j) u = if u = nI 0 then nI (4 * (stC 0 j / 4 % 64)) else if u = nI 1 then nI (4 * (stC 0 j / 256)) else if u = nI 2 then nI (stC 0 j % 4) else if u = nI 3 then 0 else -1 := by
  unfold dncF
  rw [if_neg (nI_pos (by omega)), if_neg (nI_ge (by omega) (by decide)), nI_clamp (by omega)]
theorem dX12_dancer_0 : decode cX12_dancer 0 = .ok (.iload_n 1, 1) := by decide +kernel
theorem dX12_dancer_1 : decode cX12_dancer 1 = .ok (.iconst 0, 1) := by decide +kernel
theorem dX12_dancer_2 : decode cX12_dancer 2 = .ok (.aload_n 0, 1) := by decide +kernel
theorem dX12_dancer_3 : decode cX12_dancer 3 = .ok (.getfield 231, 3) := by decide +kernel
theorem dX12_dancer_6 : decode cX12_dancer 6 = .ok (.iconst 1, 1) := by decide +kernel
theorem dX12_dancer_7 : decode cX12_dancer 7 = .ok (.isub, 1) := by decide +kernel
theorem dX12_dancer_8 : decode cX12_dancer 8 = .ok (.invokestatic 227, 3) := by decide +kernel
theorem dX12_dancer_11 : decode cX12_dancer 11 = .ok (.ifCond .ne 5, 3) := by decide +kernel
theorem dX12_dancer_14 : decode cX12_dancer 14 = .ok (.iconst (-1), 1) := by decide +kernel
theorem dX12_dancer_15 : decode cX12_dancer 15 = .ok (.ireturn, 1) := by decide +kernel
theorem dX12_dancer_16 : decode cX12_dancer 16 = .ok (.iload_n 2, 1) := by decide +kernel
theorem dX12_dancer_17 : decode cX12_dancer 17 = .ok (.ifCond .ne 12, 3) := by decide +kernel
theorem dX12_dancer_20 : decode cX12_dancer 20 = .ok (.aload_n 0, 1) := by decide +kernel
theorem dX12_dancer_21 : decode cX12_dancer 21 = .ok (.getfield 71, 3) := by decide +kernel
theorem dX12_dancer_24 : decode cX12_dancer 24 = .ok (.iload_n 1, 1) := by decide +kernel
theorem dX12_dancer_25 : decode cX12_dancer 25 = .ok (.iaload, 1) := by decide +kernel
theorem dX12_dancer_26 : decode cX12_dancer 26 = .ok (.goto 46, 3) := by decide +kernel
theorem dX12_dancer_29 : decode cX12_dancer 29 = .ok (.iload_n 2, 1) := by decide +kernel
theorem dX12_dancer_30 : decode cX12_dancer 30 = .ok (.iconst 1, 1) := by decide +kernel
theorem dX12_dancer_31 : decode cX12_dancer 31 = .ok (.if_icmp .ne 12, 3) := by decide +kernel
theorem dX12_dancer_34 : decode cX12_dancer 34 = .ok (.aload_n 0, 1) := by decide +kernel
theorem dX12_dancer_35 : decode cX12_dancer 35 = .ok (.getfield 74, 3) := by decide +kernel
theorem dX12_dancer_38 : decode cX12_dancer 38 = .ok (.iload_n 1, 1) := by decide +kernel
theorem dX12_dancer_39 : decode cX12_dancer 39 = .ok (.iaload, 1) := by decide +kernel
theorem dX12_dancer_40 : decode cX12_dancer 40 = .ok (.goto 32, 3) := by decide +kernel
theorem dX12_dancer_43 : decode cX12_dancer 43 = .ok (.iload_n 2, 1) := by decide +kernel
theorem dX12_dancer_44 : decode cX12_dancer 44 = .ok (.iconst 2, 1) := by decide +kernel
theorem dX12_dancer_45 : decode cX12_dancer 45 = .ok (.if_icmp .ne 12, 3) := by decide +kernel
theorem dX12_dancer_48 : decode cX12_dancer 48 = .ok (.aload_n 0, 1) := by decide +kernel
theorem dX12_dancer_49 : decode cX12_dancer 49 = .ok (.getfield 77, 3) := by decide +kernel
theorem dX12_dancer_52 : decode cX12_dancer 52 = .ok (.iload_n 1, 1) := by decide +kernel
theorem dX12_dancer_53 : decode cX12_dancer 53 = .ok (.iaload, 1) := by decide +kernel
theorem dX12_dancer_54 : decode cX12_dancer 54 = .ok (.goto 18, 3) := by decide +kernel
theorem dX12_dancer_57 : decode cX12_dancer 57 = .ok (.iload_n 2, 1) := by decide +kernel
theorem dX12_dancer_58 : decode cX12_dancer 58 = .ok (.iconst 3, 1) := by decide +kernel
theorem dX12_dancer_59 : decode cX12_dancer 59 = .ok (.if_icmp .ne 12, 3) := by decide +kernel
theorem dX12_dancer_62 : decode cX12_dancer 62 = .ok (.aload_n 0, 1) := by decide +kernel
theorem dX12_dancer_63 : decode cX12_dancer 63 = .ok (.getfield 80, 3) := by decide +kernel
theorem dX12_dancer_66 : decode cX12_dancer 66 = .ok (.iload_n 1, 1) := by decide +kernel
theorem dX12_dancer_67 : decode cX12_dancer 67 = .ok (.iaload, 1) := by decide +kernel
theorem dX12_dancer_68 : decode cX12_dancer 68 = .ok (.goto 4, 3) := by decide +kernel
theorem dX12_dancer_71 : decode cX12_dancer 71 = .ok (.iconst (-1), 1) := by decide +kernel
theorem dX12_dancer_72 : decode cX12_dancer 72 = .ok (.ireturn, 1) := by decide +kernel
abbrev rm_p_X12_dancer : Room := { frames := 1, cells := 0, slots := 0, locals := 22 }
set_option maxHeartbeats 4000000 in
set_option maxRecDepth 100000 in
theorem p_X12_dancer (l : Launch) (E : cE) (h0 : Nat) (r : Nat → Nat) (g : Nat → Value) (gx : Nat → Int32) (gy : Nat → Int32) (gw : Nat → Int32) (gt : Nat → Int32) (fx : Nat → Int32) (fy : Nat → Int32) (fw : Nat → Int32) (bx : Nat → Int32) (by_ : Nat → Int32) (bw : Nat → Int32) (v : Int32) (u : Int32) (hR : mOK r g) (hI : ∀ k, k < 116 → mRef k = false → g k = mI k) (hm1 : flo (stC 0) (2 * 4) gx gy gw) (hm2 : ∀ d, d < 2 * 4 → gt d = 0) (hm3 : ∀ d, d < 2 * 4 → fx d = gx d ∧ fy d = gy d ∧ fw d = gw d) (hm4 : ∀ d, d < 2 * 4 → bx d = gx d ∧ by_ d = gy d ∧ bw d = gw d) : cM l E yX12_dancer cX12_dancer 3 (some .int) rm_p_X12_dancer [.ref h0, .int v, .int u] [(h0, ob 12 (mfs g)), ((r 38), aI E 64 gx), ((r 39), aI E 64 gy), ((r 40), aI E 64 gw), ((r 41), aI E 64 gt)] (qI E (fun (r : Int32) (_u : Unit) => r = dncF v u) (fun _ => [])) := by
  refine cM_of (by decide) (Nat.le_of_ble_eq_true rfl) ?_
  intro p e s m below meth c ls A F hA hS hP hD hK hZ hl
  obtain ⟨hx, hb, hr, hml, hown, hts, hlk, hin⟩ := id F
  have hown : s.vm.findClass RX12 = some m.cls := hown
  have hl : lv_has ls 3 [(0, .ref h0), (1, .int v), (2, .int u)] := hl
  refine lv_iload_n hx hb dX12_dancer_0 rfl (lv_at hl 1 rfl) ?_
  refine lv_iconst (v := nI 0) hx hb dX12_dancer_1 (by decide) ?_
  refine lv_aload_n hx hb dX12_dancer_2 rfl (lv_at hl 0 rfl) ?_
  refine va_get (D := E.1) (ci := 12) (v := .int (nI (2 * 4))) (C := RX12) (T := TX12) (N := 116) hx hb hts iX12 hown hK hP 0 rfl rfl 37 (by decide) (hts _ wdF_RX12_231) (fun _ h9 => h9) ((mfs_get _ 37 (by decide)).trans (congrArg some (show (g) 37 = .int (nI (2 * 4)) from (hI 37 (by decide) rfl)))) dX12_dancer_3 ?_
  refine lv_iconst (v := nI 1) hx hb dX12_dancer_6 (by decide) ?_
  refine lv_isub hx hb dX12_dancer_7 ?_
  rw [show ((nI (2 * 4)) - (nI 1) : Int32) = nI 7 from by decide]
  refine cI_go (wr := [(h0, ob 12 (mfs g)), ((r 38), aI E 64 gx), ((r 39), aI E 64 gy), ((r 40), aI E 64 gw), ((r 41), aI E 64 gt)]) (cM_runS (As := [.int v, .int (nI 0), .int (nI 7)]) (rest := []) F (c_X12_in l E v (nI 0) (nI 7)) yy_X12_in wdT_X12_in wdM_RX12_227 hP hD hS hK hZ hA [] rfl rfl rfl hl.1 rfl (Nat.le_of_ble_eq_true rfl) dX12_dancer_8 ⟨by decide, by decide⟩ ⟨by decide, by decide⟩) hP hD hS hA [] [0, 1, 2, 3, 4] rfl rfl rfl (by decide) (fun r_378 u_377 H locs hw_376 hP hD hS => ?_)
  try dsimp only at hw_376
  have hP : va_P E.1 vwCl [(h0, ob 12 (mfs g)), ((r 38), aI E 64 gx), ((r 39), aI E 64 gy), ((r 40), aI E 64 gw), ((r 41), aI E 64 gt)] H := hP
  have hD : va_D A [(h0, ob 12 (mfs g)), ((r 38), aI E 64 gx), ((r 39), aI E 64 gy), ((r 40), aI E 64 gw), ((r 41), aI E 64 gt)] := hD
  refine lv_if_ne (tgt := 16) hx hb dX12_dancer_11 (by decide) (fun c1 => ?_) (fun c1 => ?_)
  · have c2 : nI 0 ≤ v ∧ v ≤ nI 7 := Decidable.byContradiction (fun h => c1 (hw_376.trans (if_neg h)))
    obtain ⟨j, hj, ej⟩ := nI_of2 (x := v) (M := nI 7) (n := 7) (by decide) (Int32.not_lt.mpr c2.1) c2.2
    have hj8 : j < 2 * 4 := by omega
    subst ej
    obtain ⟨-, hq1, hq2, hq3⟩ := hm1 j hj8
    have hd := fun u => dnc_yes (j := j) hj u
    refine lv_iload_n hx hb dX12_dancer_16 rfl (lv_at hl 2 rfl) ?_
    refine lv_if_ne (tgt := 29) hx hb dX12_dancer_17 (by decide) (fun e0 => ?_) (fun e0 => ?_)
    · have e0 : ¬ u = nI 0 := e0
      refine lv_iload_n hx hb dX12_dancer_29 rfl (lv_at hl 2 rfl) ?_
      refine lv_iconst (v := nI 1) hx hb dX12_dancer_30 (by decide) ?_
      refine lv_icmp_ne (tgt := 43) hx hb dX12_dancer_31 (by decide) (fun e1 => ?_) (fun e1 => ?_)
      · have e1 : ¬ u = nI 1 := e1
        refine lv_iload_n hx hb dX12_dancer_43 rfl (lv_at hl 2 rfl) ?_
        refine lv_iconst (v := nI 2) hx hb dX12_dancer_44 (by decide) ?_
        refine lv_icmp_ne (tgt := 57) hx hb dX12_dancer_45 (by decide) (fun e2 => ?_) (fun e2 => ?_)
        · have e2 : ¬ u = nI 2 := e2
          refine lv_iload_n hx hb dX12_dancer_57 rfl (lv_at hl 2 rfl) ?_
          refine lv_iconst (v := nI 3) hx hb dX12_dancer_58 (by decide) ?_
          refine lv_icmp_ne (tgt := 71) hx hb dX12_dancer_59 (by decide) (fun e3 => ?_) (fun e3 => ?_)
          · have e3 : ¬ u = nI 3 := e3
            refine lv_iconst (v := (-1)) hx hb dX12_dancer_71 (by decide) ?_
            exact cI_ret F hP hD hS hK () (by rw [hd, if_neg e0, if_neg e1, if_neg e2, if_neg e3]) [] rfl rfl dX12_dancer_72 (by decide) (by decide)
          · have e3 : u = nI 3 := e3
            refine lv_aload_n hx hb dX12_dancer_62 rfl (lv_at hl 0 rfl) ?_
            refine va_get (D := E.1) (ci := 12) (v := .ref (r 41)) (C := RX12) (T := TX12) (N := 116) hx hb hts iX12 hown hK hP 0 rfl rfl 41 (by decide) (hts _ wdF_RX12_80) (fun _ h9 => h9) ((mfs_get _ 41 (by decide)).trans (congrArg some (show (g) 41 = .ref (r 41) from (hR 41 rfl)))) dX12_dancer_63 ?_
            refine lv_iload_n hx hb dX12_dancer_66 rfl (lv_at hl 1 rfl) ?_
            refine va_iald hx hb hK hP 4 1 rfl rfl (vp_in_nI (by omega) (by decide)) dX12_dancer_67 ?_
            rw [nI_clamp (n := j) (by omega)]
            refine lv_goto (tgt := 72) hx hb dX12_dancer_68 (by decide) ?_
            exact cI_ret F hP hD hS hK () ((hm2 j hj8).trans (by rw [hd, if_neg e0, if_neg e1, if_neg e2, if_pos e3])) [] rfl rfl dX12_dancer_72 (by decide) (by decide)
        · have e2 : u = nI 2 := e2
          refine lv_aload_n hx hb dX12_dancer_48 rfl (lv_at hl 0 rfl) ?_
          refine va_get (D := E.1) (ci := 12) (v := .ref (r 40)) (C := RX12) (T := TX12) (N := 116) hx hb hts iX12 hown hK hP 0 rfl rfl 40 (by decide) (hts _ wdF_RX12_77) (fun _ h9 => h9) ((mfs_get _ 40 (by decide)).trans (congrArg some (show (g) 40 = .ref (r 40) from (hR 40 rfl)))) dX12_dancer_49 ?_
          refine lv_iload_n hx hb dX12_dancer_52 rfl (lv_at hl 1 rfl) ?_
          refine va_iald hx hb hK hP 3 1 rfl rfl (vp_in_nI (by omega) (by decide)) dX12_dancer_53 ?_
          rw [nI_clamp (n := j) (by omega)]
          refine lv_goto (tgt := 72) hx hb dX12_dancer_54 (by decide) ?_
          exact cI_ret F hP hD hS hK () (hq3.trans (by rw [hd, if_neg e0, if_neg e1, if_pos e2])) [] rfl rfl dX12_dancer_72 (by decide) (by decide)
      · have e1 : u = nI 1 := e1
        refine lv_aload_n hx hb dX12_dancer_34 rfl (lv_at hl 0 rfl) ?_
        refine va_get (D := E.1) (ci := 12) (v := .ref (r 39)) (C := RX12) (T := TX12) (N := 116) hx hb hts iX12 hown hK hP 0 rfl rfl 39 (by decide) (hts _ wdF_RX12_74) (fun _ h9 => h9) ((mfs_get _ 39 (by decide)).trans (congrArg some (show (g) 39 = .ref (r 39) from (hR 39 rfl)))) dX12_dancer_35 ?_
        refine lv_iload_n hx hb dX12_dancer_38 rfl (lv_at hl 1 rfl) ?_
        refine va_iald hx hb hK hP 2 1 rfl rfl (vp_in_nI (by omega) (by decide)) dX12_dancer_39 ?_
        rw [nI_clamp (n := j) (by omega)]
        refine lv_goto (tgt := 72) hx hb dX12_dancer_40 (by decide) ?_
        exact cI_ret F hP hD hS hK () (hq2.trans (by rw [hd, if_neg e0, if_pos e1])) [] rfl rfl dX12_dancer_72 (by decide) (by decide)
    · have e0 : u = nI 0 := e0
      refine lv_aload_n hx hb dX12_dancer_20 rfl (lv_at hl 0 rfl) ?_
      refine va_get (D := E.1) (ci := 12) (v := .ref (r 38)) (C := RX12) (T := TX12) (N := 116) hx hb hts iX12 hown hK hP 0 rfl rfl 38 (by decide) (hts _ wdF_RX12_71) (fun _ h9 => h9) ((mfs_get _ 38 (by decide)).trans (congrArg some (show (g) 38 = .ref (r 38) from (hR 38 rfl)))) dX12_dancer_21 ?_
      refine lv_iload_n hx hb dX12_dancer_24 rfl (lv_at hl 1 rfl) ?_
      refine va_iald hx hb hK hP 1 1 rfl rfl (vp_in_nI (by omega) (by decide)) dX12_dancer_25 ?_
      rw [nI_clamp (n := j) (by omega)]
      refine lv_goto (tgt := 72) hx hb dX12_dancer_26 (by decide) ?_
      exact cI_ret F hP hD hS hK () (hq1.trans (by rw [hd, if_pos e0])) [] rfl rfl dX12_dancer_72 (by decide) (by decide)
  · have c2 : ¬ (nI 0 ≤ v ∧ v ≤ nI 7) := fun h => absurd (hw_376.symm.trans c1) (by rw [if_pos h]; decide)
    refine lv_iconst (v := (-1)) hx hb dX12_dancer_14 (by decide) ?_
    exact cI_ret F hP hD hS hK () (dnc_no c2).symm [] rfl rfl dX12_dancer_15 (by decide) (by decide)
theorem yy_X12_dancer : cY yX12_dancer cX12_dancer 3 (some .int) 2 := ⟨wdK_X12_dancer, wdZ_RX12, by decide +kernel⟩
theorem yi_X12_dancer : cYi yX12_dancer := ⟨wdN_X12_dancer, wdS_X12_dancer⟩
theorem dX12_about_0 : decode cX12_about 0 = .ok (.iload_n 1, 1) := by decide +kernel
theorem dX12_about_1 : decode cX12_about 1 = .ok (.tableswitch 165 0 13 #[71, 76, 81, 86, 91, 104, 117, 122, 127, 132, 137, 150, 155, 160], 71) := by decide +kernel
theorem dX12_about_72 : decode cX12_about 72 = .ok (.aload_n 0, 1) := by decide +kernel
theorem dX12_about_73 : decode cX12_about 73 = .ok (.getfield 231, 3) := by decide +kernel
theorem dX12_about_76 : decode cX12_about 76 = .ok (.ireturn, 1) := by decide +kernel
theorem dX12_about_77 : decode cX12_about 77 = .ok (.aload_n 0, 1) := by decide +kernel
theorem dX12_about_78 : decode cX12_about 78 = .ok (.getfield 252, 3) := by decide +kernel
theorem dX12_about_81 : decode cX12_about 81 = .ok (.ireturn, 1) := by decide +kernel
theorem dX12_about_82 : decode cX12_about 82 = .ok (.aload_n 0, 1) := by decide +kernel
theorem dX12_about_83 : decode cX12_about 83 = .ok (.getfield 255, 3) := by decide +kernel
theorem dX12_about_86 : decode cX12_about 86 = .ok (.ireturn, 1) := by decide +kernel
theorem dX12_about_87 : decode cX12_about 87 = .ok (.aload_n 0, 1) := by decide +kernel
theorem dX12_about_88 : decode cX12_about 88 = .ok (.getfield 238, 3) := by decide +kernel
theorem dX12_about_91 : decode cX12_about 91 = .ok (.ireturn, 1) := by decide +kernel
theorem dX12_about_92 : decode cX12_about 92 = .ok (.aload_n 0, 1) := by decide +kernel
theorem dX12_about_93 : decode cX12_about 93 = .ok (.invokevirtual 523, 3) := by decide +kernel
theorem dX12_about_96 : decode cX12_about 96 = .ok (.ifCond .eq 7, 3) := by decide +kernel
theorem dX12_about_99 : decode cX12_about 99 = .ok (.iconst 1, 1) := by decide +kernel
theorem dX12_about_100 : decode cX12_about 100 = .ok (.goto 4, 3) := by decide +kernel
theorem dX12_about_103 : decode cX12_about 103 = .ok (.iconst 0, 1) := by decide +kernel
theorem dX12_about_104 : decode cX12_about 104 = .ok (.ireturn, 1) := by decide +kernel
theorem dX12_about_105 : decode cX12_about 105 = .ok (.aload_n 0, 1) := by decide +kernel
theorem dX12_about_106 : decode cX12_about 106 = .ok (.invokevirtual 632, 3) := by decide +kernel
theorem dX12_about_109 : decode cX12_about 109 = .ok (.ifCond .eq 7, 3) := by decide +kernel
theorem dX12_about_112 : decode cX12_about 112 = .ok (.iconst 1, 1) := by decide +kernel
theorem dX12_about_113 : decode cX12_about 113 = .ok (.goto 4, 3) := by decide +kernel
theorem dX12_about_116 : decode cX12_about 116 = .ok (.iconst 0, 1) := by decide +kernel
theorem dX12_about_117 : decode cX12_about 117 = .ok (.ireturn, 1) := by decide +kernel
theorem dX12_about_118 : decode cX12_about 118 = .ok (.aload_n 0, 1) := by decide +kernel
theorem dX12_about_119 : decode cX12_about 119 = .ok (.getfield 362, 3) := by decide +kernel
theorem dX12_about_122 : decode cX12_about 122 = .ok (.ireturn, 1) := by decide +kernel
theorem dX12_about_123 : decode cX12_about 123 = .ok (.aload_n 0, 1) := by decide +kernel
theorem dX12_about_124 : decode cX12_about 124 = .ok (.getfield 375, 3) := by decide +kernel
theorem dX12_about_127 : decode cX12_about 127 = .ok (.ireturn, 1) := by decide +kernel
theorem dX12_about_128 : decode cX12_about 128 = .ok (.aload_n 0, 1) := by decide +kernel
theorem dX12_about_129 : decode cX12_about 129 = .ok (.getfield 386, 3) := by decide +kernel
theorem dX12_about_132 : decode cX12_about 132 = .ok (.ireturn, 1) := by decide +kernel
theorem dX12_about_133 : decode cX12_about 133 = .ok (.aload_n 0, 1) := by decide +kernel
theorem dX12_about_134 : decode cX12_about 134 = .ok (.getfield 392, 3) := by decide +kernel
theorem dX12_about_137 : decode cX12_about 137 = .ok (.ireturn, 1) := by decide +kernel
theorem dX12_about_138 : decode cX12_about 138 = .ok (.aload_n 0, 1) := by decide +kernel
theorem dX12_about_139 : decode cX12_about 139 = .ok (.getfield 241, 3) := by decide +kernel
theorem dX12_about_142 : decode cX12_about 142 = .ok (.ifCond .eq 7, 3) := by decide +kernel
theorem dX12_about_145 : decode cX12_about 145 = .ok (.iconst 1, 1) := by decide +kernel
theorem dX12_about_146 : decode cX12_about 146 = .ok (.goto 4, 3) := by decide +kernel
theorem dX12_about_149 : decode cX12_about 149 = .ok (.iconst 0, 1) := by decide +kernel
theorem dX12_about_150 : decode cX12_about 150 = .ok (.ireturn, 1) := by decide +kernel
theorem dX12_about_151 : decode cX12_about 151 = .ok (.aload_n 0, 1) := by decide +kernel
theorem dX12_about_152 : decode cX12_about 152 = .ok (.getfield 629, 3) := by decide +kernel
theorem dX12_about_155 : decode cX12_about 155 = .ok (.ireturn, 1) := by decide +kernel
theorem dX12_about_156 : decode cX12_about 156 = .ok (.aload_n 0, 1) := by decide +kernel
theorem dX12_about_157 : decode cX12_about 157 = .ok (.getfield 258, 3) := by decide +kernel
theorem dX12_about_160 : decode cX12_about 160 = .ok (.ireturn, 1) := by decide +kernel
theorem dX12_about_161 : decode cX12_about 161 = .ok (.aload_n 0, 1) := by decide +kernel
theorem dX12_about_162 : decode cX12_about 162 = .ok (.getfield 314, 3) := by decide +kernel
theorem dX12_about_165 : decode cX12_about 165 = .ok (.ireturn, 1) := by decide +kernel
theorem dX12_about_166 : decode cX12_about 166 = .ok (.iconst (-1), 1) := by decide +kernel
theorem dX12_about_167 : decode cX12_about 167 = .ok (.ireturn, 1) := by decide +kernel
abbrev rm_p_X12_about : Room := { frames := 1, cells := 0, slots := 0, locals := 22 }
set_option maxHeartbeats 4000000 in
set_option maxRecDepth 100000 in
theorem p_X12_about (l : Launch) (E : cE) (h0 : Nat) (r : Nat → Nat) (g : Nat → Value) (gx : Nat → Int32) (gy : Nat → Int32) (gw : Nat → Int32) (gt : Nat → Int32) (fx : Nat → Int32) (fy : Nat → Int32) (fw : Nat → Int32) (bx : Nat → Int32) (by_ : Nat → Int32) (bw : Nat → Int32) (v : Int32) (hR : mOK r g) (hI : ∀ k, k < 116 → mRef k = false → g k = mI k) (hm1 : flo (stC 0) (2 * 4) gx gy gw) (hm2 : ∀ d, d < 2 * 4 → gt d = 0) (hm3 : ∀ d, d < 2 * 4 → fx d = gx d ∧ fy d = gy d ∧ fw d = gw d) (hm4 : ∀ d, d < 2 * 4 → bx d = gx d ∧ by_ d = gy d ∧ bw d = gw d) : cM l E yX12_about cX12_about 2 (some .int) rm_p_X12_about [.ref h0, .int v] [(h0, ob 12 (mfs g)), ((r 38), aI E 64 gx), ((r 39), aI E 64 gy), ((r 40), aI E 64 gw), ((r 44), aI E 64 fx), ((r 45), aI E 64 fy), ((r 46), aI E 64 fw), ((r 47), aI E 64 bx), ((r 48), aI E 64 by_), ((r 49), aI E 64 bw)] (qI E (fun (r : Int32) (_u : Unit) => r = abF v) (fun _ => [])) := by
  refine cM_of (by decide) (Nat.le_of_ble_eq_true rfl) ?_
  intro p e s m below meth c ls A F hA hS hP hD hK hZ hl
  obtain ⟨hx, hb, hr, hml, hown, hts, hlk, hin⟩ := id F
  have hown : s.vm.findClass RX12 = some m.cls := hown
  have hl : lv_has ls 2 [(0, .ref h0), (1, .int v)] := hl
  refine lv_iload_n hx hb dX12_about_0 rfl (lv_at hl 1 rfl) ?_
  rcases sw_cases v 14 (by decide) with hsw | ⟨j9, hj9, hsw⟩
  · refine lv_tableOut (tgt := 166) hx hb dX12_about_1 hsw (by decide) ?_
    refine lv_iconst (v := (-1)) hx hb dX12_about_166 (by decide) ?_
    exact cI_ret F hP hD hS hK () (by unfold abF; rw [if_pos (by simpa using hsw)]) [] rfl rfl dX12_about_167 (by decide) (by decide)
  · subst hsw
    rcases (show j9 = 0 ∨ j9 = 1 ∨ j9 = 2 ∨ j9 = 3 ∨ j9 = 4 ∨ j9 = 5 ∨ j9 = 6 ∨ j9 = 7 ∨ j9 = 8 ∨ j9 = 9 ∨ j9 = 10 ∨ j9 = 11 ∨ j9 = 12 ∨ j9 = 13 by omega) with rfl | rfl | rfl | rfl | rfl | rfl | rfl | rfl | rfl | rfl | rfl | rfl | rfl | rfl
    · refine lv_tableIn (tgt := 72) hx hb dX12_about_1 (by decide) (by decide) (off := 71) (by decide) (by decide) ?_
      refine lv_aload_n hx hb dX12_about_72 rfl (lv_at hl 0 rfl) ?_
      refine va_get (D := E.1) (ci := 12) (v := .int (nI (2 * 4))) (C := RX12) (T := TX12) (N := 116) hx hb hts iX12 hown hK hP 0 rfl rfl 37 (by decide) (hts _ wdF_RX12_231) (fun _ h9 => h9) ((mfs_get _ 37 (by decide)).trans (congrArg some (show (g) 37 = .int (nI (2 * 4)) from (hI 37 (by decide) rfl)))) dX12_about_73 ?_
      exact cI_ret F hP hD hS hK () (by decide) [] rfl rfl dX12_about_76 (by decide) (by decide)
    · refine lv_tableIn (tgt := 77) hx hb dX12_about_1 (by decide) (by decide) (off := 76) (by decide) (by decide) ?_
      refine lv_aload_n hx hb dX12_about_77 rfl (lv_at hl 0 rfl) ?_
      refine va_get (D := E.1) (ci := 12) (v := .int 0) (C := RX12) (T := TX12) (N := 116) hx hb hts iX12 hown hK hP 0 rfl rfl 42 (by decide) (hts _ wdF_RX12_252) (fun _ h9 => h9) ((mfs_get _ 42 (by decide)).trans (congrArg some (show (g) 42 = .int 0 from (hI 42 (by decide) rfl)))) dX12_about_78 ?_
      exact cI_ret F hP hD hS hK () (by decide) [] rfl rfl dX12_about_81 (by decide) (by decide)
    · refine lv_tableIn (tgt := 82) hx hb dX12_about_1 (by decide) (by decide) (off := 81) (by decide) (by decide) ?_
      refine lv_aload_n hx hb dX12_about_82 rfl (lv_at hl 0 rfl) ?_
      refine va_get (D := E.1) (ci := 12) (v := .int 0) (C := RX12) (T := TX12) (N := 116) hx hb hts iX12 hown hK hP 0 rfl rfl 43 (by decide) (hts _ wdF_RX12_255) (fun _ h9 => h9) ((mfs_get _ 43 (by decide)).trans (congrArg some (show (g) 43 = .int 0 from (hI 43 (by decide) rfl)))) dX12_about_83 ?_
      exact cI_ret F hP hD hS hK () (by decide) [] rfl rfl dX12_about_86 (by decide) (by decide)
    · refine lv_tableIn (tgt := 87) hx hb dX12_about_1 (by decide) (by decide) (off := 86) (by decide) (by decide) ?_
      refine lv_aload_n hx hb dX12_about_87 rfl (lv_at hl 0 rfl) ?_
      refine va_get (D := E.1) (ci := 12) (v := .int 0) (C := RX12) (T := TX12) (N := 116) hx hb hts iX12 hown hK hP 0 rfl rfl 59 (by decide) (hts _ wdF_RX12_238) (fun _ h9 => h9) ((mfs_get _ 59 (by decide)).trans (congrArg some (show (g) 59 = .int 0 from (hI 59 (by decide) rfl)))) dX12_about_88 ?_
      exact cI_ret F hP hD hS hK () (by decide) [] rfl rfl dX12_about_91 (by decide) (by decide)
    · refine lv_tableIn (tgt := 92) hx hb dX12_about_1 (by decide) (by decide) (off := 91) (by decide) (by decide) ?_
      refine lv_aload_n hx hb dX12_about_92 rfl (lv_at hl 0 rfl) ?_
      refine cI_go (wr := [((r 47), aI E 64 bx), ((r 48), aI E 64 by_), ((r 49), aI E 64 bw)]) (cM_runV (As := []) (rest := []) F (c_X12_isHome l E h0 r g gx gy gw fx fy fw (2 * 4) hR (hI 37 (by decide) rfl) (by decide)) yy_X12_isHome yi_X12_isHome wdM_RX12_523 hP hD hS hK hZ hA [0, 1, 2, 3, 4, 5, 6] rfl rfl 0 12 rfl rfl rfl hl.1 rfl (Nat.le_of_ble_eq_true rfl) dX12_about_93 ⟨by decide, by decide⟩ ⟨by decide, by decide⟩) hP hD hS hA [0, 1, 2, 3, 4, 5, 6] [7, 8, 9] rfl rfl rfl (by decide) (fun r_662 u_661 H locs hw_660 hP hD hS => ?_)
      try dsimp only at hw_660
      have hP : va_P E.1 vwCl [((r 47), aI E 64 bx), ((r 48), aI E 64 by_), ((r 49), aI E 64 bw), (h0, ob 12 (mfs g)), ((r 38), aI E 64 gx), ((r 39), aI E 64 gy), ((r 40), aI E 64 gw), ((r 44), aI E 64 fx), ((r 45), aI E 64 fy), ((r 46), aI E 64 fw)] H := hP
      have hD : va_D A [((r 47), aI E 64 bx), ((r 48), aI E 64 by_), ((r 49), aI E 64 bw), (h0, ob 12 (mfs g)), ((r 38), aI E 64 gx), ((r 39), aI E 64 gy), ((r 40), aI E 64 gw), ((r 44), aI E 64 fx), ((r 45), aI E 64 fy), ((r 46), aI E 64 fw)] := hD
      have hq : r_662 = 1 := hw_660.elim (fun h => h.1) (fun ⟨_, d, hd, hne⟩ => absurd ⟨(hm3 d hd).1.symm, (hm3 d hd).2.1.symm, (hm3 d hd).2.2.symm⟩ hne)
      subst hq
      refine lv_if_eq (tgt := 103) hx hb dX12_about_96 (by decide) (fun c_663 => absurd c_663 (by decide)) (fun c_663 => ?_)
      refine lv_iconst (v := nI 1) hx hb dX12_about_99 (by decide) ?_
      refine lv_goto (tgt := 104) hx hb dX12_about_100 (by decide) ?_
      exact cI_ret F hP hD hS hK () (by decide) [] rfl rfl dX12_about_104 (by decide) (by decide)
    · refine lv_tableIn (tgt := 105) hx hb dX12_about_1 (by decide) (by decide) (off := 104) (by decide) (by decide) ?_
      refine lv_aload_n hx hb dX12_about_105 rfl (lv_at hl 0 rfl) ?_
      refine cI_go (wr := [((r 44), aI E 64 fx), ((r 45), aI E 64 fy), ((r 46), aI E 64 fw)]) (cM_runV (As := []) (rest := []) F (c_X12_isAim l E h0 r g gx gy gw bx by_ bw (2 * 4) hR (hI 37 (by decide) rfl) (by decide)) yy_X12_isAim yi_X12_isAim wdM_RX12_632 hP hD hS hK hZ hA [0, 1, 2, 3, 7, 8, 9] rfl rfl 0 12 rfl rfl rfl hl.1 rfl (Nat.le_of_ble_eq_true rfl) dX12_about_106 ⟨by decide, by decide⟩ ⟨by decide, by decide⟩) hP hD hS hA [0, 1, 2, 3, 7, 8, 9] [4, 5, 6] rfl rfl rfl (by decide) (fun r_666 u_665 H locs hw_664 hP hD hS => ?_)
      try dsimp only at hw_664
      have hP : va_P E.1 vwCl [((r 44), aI E 64 fx), ((r 45), aI E 64 fy), ((r 46), aI E 64 fw), (h0, ob 12 (mfs g)), ((r 38), aI E 64 gx), ((r 39), aI E 64 gy), ((r 40), aI E 64 gw), ((r 47), aI E 64 bx), ((r 48), aI E 64 by_), ((r 49), aI E 64 bw)] H := hP
      have hD : va_D A [((r 44), aI E 64 fx), ((r 45), aI E 64 fy), ((r 46), aI E 64 fw), (h0, ob 12 (mfs g)), ((r 38), aI E 64 gx), ((r 39), aI E 64 gy), ((r 40), aI E 64 gw), ((r 47), aI E 64 bx), ((r 48), aI E 64 by_), ((r 49), aI E 64 bw)] := hD
      have hq : r_666 = 1 := hw_664.elim (fun h => h.1) (fun ⟨_, d, hd, hne⟩ => absurd ⟨(hm4 d hd).1.symm, (hm4 d hd).2.1.symm, (hm4 d hd).2.2.symm⟩ hne)
      subst hq
      refine lv_if_eq (tgt := 116) hx hb dX12_about_109 (by decide) (fun c_667 => absurd c_667 (by decide)) (fun c_667 => ?_)
      refine lv_iconst (v := nI 1) hx hb dX12_about_112 (by decide) ?_
      refine lv_goto (tgt := 117) hx hb dX12_about_113 (by decide) ?_
      exact cI_ret F hP hD hS hK () (by decide) [] rfl rfl dX12_about_117 (by decide) (by decide)
    · refine lv_tableIn (tgt := 118) hx hb dX12_about_1 (by decide) (by decide) (off := 117) (by decide) (by decide) ?_
      refine lv_aload_n hx hb dX12_about_118 rfl (lv_at hl 0 rfl) ?_
      refine va_get (D := E.1) (ci := 12) (v := .int 0) (C := RX12) (T := TX12) (N := 116) hx hb hts iX12 hown hK hP 0 rfl rfl 14 (by decide) (hts _ wdF_RX12_362) (fun _ h9 => h9) ((mfs_get _ 14 (by decide)).trans (congrArg some (show (g) 14 = .int 0 from (hI 14 (by decide) rfl)))) dX12_about_119 ?_
      exact cI_ret F hP hD hS hK () (by decide) [] rfl rfl dX12_about_122 (by decide) (by decide)
    · refine lv_tableIn (tgt := 123) hx hb dX12_about_1 (by decide) (by decide) (off := 122) (by decide) (by decide) ?_
      refine lv_aload_n hx hb dX12_about_123 rfl (lv_at hl 0 rfl) ?_
      refine va_get (D := E.1) (ci := 12) (v := .int 0) (C := RX12) (T := TX12) (N := 116) hx hb hts iX12 hown hK hP 0 rfl rfl 15 (by decide) (hts _ wdF_RX12_375) (fun _ h9 => h9) ((mfs_get _ 15 (by decide)).trans (congrArg some (show (g) 15 = .int 0 from (hI 15 (by decide) rfl)))) dX12_about_124 ?_
      exact cI_ret F hP hD hS hK () (by decide) [] rfl rfl dX12_about_127 (by decide) (by decide)
    · refine lv_tableIn (tgt := 128) hx hb dX12_about_1 (by decide) (by decide) (off := 127) (by decide) (by decide) ?_
      refine lv_aload_n hx hb dX12_about_128 rfl (lv_at hl 0 rfl) ?_
      refine va_get (D := E.1) (ci := 12) (v := .int 0) (C := RX12) (T := TX12) (N := 116) hx hb hts iX12 hown hK hP 0 rfl rfl 16 (by decide) (hts _ wdF_RX12_386) (fun _ h9 => h9) ((mfs_get _ 16 (by decide)).trans (congrArg some (show (g) 16 = .int 0 from (hI 16 (by decide) rfl)))) dX12_about_129 ?_
      exact cI_ret F hP hD hS hK () (by decide) [] rfl rfl dX12_about_132 (by decide) (by decide)
    · refine lv_tableIn (tgt := 133) hx hb dX12_about_1 (by decide) (by decide) (off := 132) (by decide) (by decide) ?_
      refine lv_aload_n hx hb dX12_about_133 rfl (lv_at hl 0 rfl) ?_
      refine va_get (D := E.1) (ci := 12) (v := .int 0) (C := RX12) (T := TX12) (N := 116) hx hb hts iX12 hown hK hP 0 rfl rfl 17 (by decide) (hts _ wdF_RX12_392) (fun _ h9 => h9) ((mfs_get _ 17 (by decide)).trans (congrArg some (show (g) 17 = .int 0 from (hI 17 (by decide) rfl)))) dX12_about_134 ?_
      exact cI_ret F hP hD hS hK () (by decide) [] rfl rfl dX12_about_137 (by decide) (by decide)
    · refine lv_tableIn (tgt := 138) hx hb dX12_about_1 (by decide) (by decide) (off := 137) (by decide) (by decide) ?_
      refine lv_aload_n hx hb dX12_about_138 rfl (lv_at hl 0 rfl) ?_
      refine va_get (D := E.1) (ci := 12) (v := .int 0) (C := RX12) (T := TX12) (N := 116) hx hb hts iX12 hown hK hP 0 rfl rfl 50 (by decide) (hts _ wdF_RX12_241) (fun _ h9 => h9) ((mfs_get _ 50 (by decide)).trans (congrArg some (show (g) 50 = .int 0 from (hI 50 (by decide) rfl)))) dX12_about_139 ?_
      refine lv_if_eq (tgt := 149) hx hb dX12_about_142 (by decide) (fun c_668 => ?_) (fun c_668 => absurd (by decide) c_668)
      refine lv_iconst (v := nI 0) hx hb dX12_about_149 (by decide) ?_
      exact cI_ret F hP hD hS hK () (by decide) [] rfl rfl dX12_about_150 (by decide) (by decide)
    · refine lv_tableIn (tgt := 151) hx hb dX12_about_1 (by decide) (by decide) (off := 150) (by decide) (by decide) ?_
      refine lv_aload_n hx hb dX12_about_151 rfl (lv_at hl 0 rfl) ?_
      refine va_get (D := E.1) (ci := 12) (v := .int 0) (C := RX12) (T := TX12) (N := 116) hx hb hts iX12 hown hK hP 0 rfl rfl 89 (by decide) (hts _ wdF_RX12_629) (fun _ h9 => h9) ((mfs_get _ 89 (by decide)).trans (congrArg some (show (g) 89 = .int 0 from (hI 89 (by decide) rfl)))) dX12_about_152 ?_
      exact cI_ret F hP hD hS hK () (by decide) [] rfl rfl dX12_about_155 (by decide) (by decide)
    · refine lv_tableIn (tgt := 156) hx hb dX12_about_1 (by decide) (by decide) (off := 155) (by decide) (by decide) ?_
      refine lv_aload_n hx hb dX12_about_156 rfl (lv_at hl 0 rfl) ?_
      refine va_get (D := E.1) (ci := 12) (v := .int 0) (C := RX12) (T := TX12) (N := 116) hx hb hts iX12 hown hK hP 0 rfl rfl 1 (by decide) (hts _ wdF_RX12_258) (fun _ h9 => h9) ((mfs_get _ 1 (by decide)).trans (congrArg some (show (g) 1 = .int 0 from (hI 1 (by decide) rfl)))) dX12_about_157 ?_
      exact cI_ret F hP hD hS hK () (by decide) [] rfl rfl dX12_about_160 (by decide) (by decide)
    · refine lv_tableIn (tgt := 161) hx hb dX12_about_1 (by decide) (by decide) (off := 160) (by decide) (by decide) ?_
      refine lv_aload_n hx hb dX12_about_161 rfl (lv_at hl 0 rfl) ?_
      refine va_get (D := E.1) (ci := 12) (v := .int 0) (C := RX12) (T := TX12) (N := 116) hx hb hts iX12 hown hK hP 0 rfl rfl 33 (by decide) (hts _ wdF_RX12_314) (fun _ h9 => h9) ((mfs_get _ 33 (by decide)).trans (congrArg some (show (g) 33 = .int 0 from (hI 33 (by decide) rfl)))) dX12_about_162 ?_
      exact cI_ret F hP hD hS hK () (by decide) [] rfl rfl dX12_about_165 (by decide) (by decide)
theorem yy_X12_about : cY yX12_about cX12_about 2 (some .int) 1 := ⟨wdK_X12_about, wdZ_RX12, by decide +kernel⟩
theorem yi_X12_about : cYi yX12_about := ⟨wdN_X12_about, wdS_X12_about⟩
theorem dX12_mark_0 : decode cX12_mark 0 = .ok (.aload_n 0, 1) := by decide +kernel
theorem dX12_mark_1 : decode cX12_mark 1 = .ok (.invokevirtual 224, 3) := by decide +kernel
theorem dX12_mark_4 : decode cX12_mark 4 = .ok (.return_, 1) := by decide +kernel
abbrev rm_p_X12_mark : Room := { frames := 1, cells := 0, slots := 0, locals := 21 }
set_option maxHeartbeats 4000000 in
set_option maxRecDepth 100000 in
theorem p_X12_mark (l : Launch) (E : cE) (h0 : Nat) (r : Nat → Nat) (g : Nat → Value) (gx : Nat → Int32) (gy : Nat → Int32) (gw : Nat → Int32) (gt : Nat → Int32) (fx : Nat → Int32) (fy : Nat → Int32) (fw : Nat → Int32) (bx : Nat → Int32) (by_ : Nat → Int32) (bw : Nat → Int32) (hR : mOK r g) (hI : ∀ k, k < 116 → mRef k = false → g k = mI k) (hm1 : flo (stC 0) (2 * 4) gx gy gw) (hm2 : ∀ d, d < 2 * 4 → gt d = 0) (hm3 : ∀ d, d < 2 * 4 → fx d = gx d ∧ fy d = gy d ∧ fw d = gw d) (hm4 : ∀ d, d < 2 * 4 → bx d = gx d ∧ by_ d = gy d ∧ bw d = gw d) : cM l E yX12_mark cX12_mark 1 none rm_p_X12_mark [.ref h0] [(h0, ob 12 (mfs g)), ((r 38), aI E 64 gx), ((r 39), aI E 64 gy), ((r 40), aI E 64 gw), ((r 47), aI E 64 bx), ((r 48), aI E 64 by_), ((r 49), aI E 64 bw)] (qV E (fun (_u : Unit) => True) (fun _ => [])) := by
  refine cM_of (by decide) (Nat.le_of_ble_eq_true rfl) ?_
  intro p e s m below meth c ls A F hA hS hP hD hK hZ hl
  obtain ⟨hx, hb, hr, hml, hown, hts, hlk, hin⟩ := id F
  have hown : s.vm.findClass RX12 = some m.cls := hown
  have hl : lv_has ls 1 [(0, .ref h0)] := hl
  refine lv_aload_n hx hb dX12_mark_0 rfl (lv_at hl 0 rfl) ?_
  refine cV_go (wr := []) (cM_runV (As := []) (rest := []) F (c_X12_marks l E h0 r g gx gy gw bx by_ bw (2 * 4) hR (hI 37 (by decide) rfl) (by decide)) yy_X12_marks yi_X12_marks wdM_RX12_224 hP hD hS hK hZ hA [0, 1, 2, 3, 4, 5, 6] rfl rfl 0 12 rfl rfl rfl hl.1 rfl (Nat.le_of_ble_eq_true rfl) dX12_mark_1 ⟨by decide, by decide⟩ ⟨by decide, by decide⟩) hP hD hS hA [0, 1, 2, 3, 4, 5, 6] [] rfl rfl rfl (by decide) (fun u_670 H locs hw_669 hP hD hS => ?_)
  obtain ⟨bx_672, by__673, bw_674⟩ := u_670
  try dsimp only at hw_669
  have hP : va_P E.1 vwCl [(h0, ob 12 (mfs g)), ((r 38), aI E 64 gx), ((r 39), aI E 64 gy), ((r 40), aI E 64 gw), ((r 47), aI E 64 bx_672), ((r 48), aI E 64 by__673), ((r 49), aI E 64 bw_674)] H := hP
  have hD : va_D A [(h0, ob 12 (mfs g)), ((r 38), aI E 64 gx), ((r 39), aI E 64 gy), ((r 40), aI E 64 gw), ((r 47), aI E 64 bx_672), ((r 48), aI E 64 by__673), ((r 49), aI E 64 bw_674)] := hD
  exact cV_ret F hP hD hS hK () trivial [] rfl rfl dX12_mark_4 (by decide) (by decide)
theorem yy_X12_mark : cY yX12_mark cX12_mark 1 none 0 := ⟨wdK_X12_mark, wdZ_RX12, by decide +kernel⟩
theorem yi_X12_mark : cYi yX12_mark := ⟨wdN_X12_mark, wdS_X12_mark⟩
theorem dX12_back_0 : decode cX12_back 0 = .ok (.iload_n 1, 1) := by decide +kernel
theorem dX12_back_1 : decode cX12_back 1 = .ok (.ifCond .lt 11, 3) := by decide +kernel
theorem dX12_back_4 : decode cX12_back 4 = .ok (.iload_n 1, 1) := by decide +kernel
theorem dX12_back_5 : decode cX12_back 5 = .ok (.aload_n 0, 1) := by decide +kernel
theorem dX12_back_6 : decode cX12_back 6 = .ok (.getfield 238, 3) := by decide +kernel
theorem dX12_back_9 : decode cX12_back 9 = .ok (.if_icmp .le 5, 3) := by decide +kernel
theorem dX12_back_12 : decode cX12_back 12 = .ok (.iconst 0, 1) := by decide +kernel
theorem dX12_back_13 : decode cX12_back 13 = .ok (.ireturn, 1) := by decide +kernel
theorem dX12_back_14 : decode cX12_back 14 = .ok (.iload_n 1, 1) := by decide +kernel
theorem dX12_back_15 : decode cX12_back 15 = .ok (.ifCond .ne 5, 3) := by decide +kernel
theorem dX12_back_18 : decode cX12_back 18 = .ok (.iconst 1, 1) := by decide +kernel
theorem dX12_back_19 : decode cX12_back 19 = .ok (.ireturn, 1) := by decide +kernel
theorem dX12_back_20 : decode cX12_back 20 = .ok (.aload_n 0, 1) := by decide +kernel
theorem dX12_back_21 : decode cX12_back 21 = .ok (.aload_n 0, 1) := by decide +kernel
theorem dX12_back_22 : decode cX12_back 22 = .ok (.getfield 569, 3) := by decide +kernel
theorem dX12_back_25 : decode cX12_back 25 = .ok (.sipush 201, 3) := by decide +kernel
theorem dX12_back_28 : decode cX12_back 28 = .ok (.iadd, 1) := by decide +kernel
theorem dX12_back_29 : decode cX12_back 29 = .ok (.iload_n 1, 1) := by decide +kernel
theorem dX12_back_30 : decode cX12_back 30 = .ok (.isub, 1) := by decide +kernel
theorem dX12_back_31 : decode cX12_back 31 = .ok (.sipush 201, 3) := by decide +kernel
theorem dX12_back_34 : decode cX12_back 34 = .ok (.irem, 1) := by decide +kernel
theorem dX12_back_35 : decode cX12_back 35 = .ok (.putfield 569, 3) := by decide +kernel
theorem dX12_back_38 : decode cX12_back 38 = .ok (.aload_n 0, 1) := by decide +kernel
theorem dX12_back_39 : decode cX12_back 39 = .ok (.dup, 1) := by decide +kernel
theorem dX12_back_40 : decode cX12_back 40 = .ok (.getfield 238, 3) := by decide +kernel
theorem dX12_back_43 : decode cX12_back 43 = .ok (.iload_n 1, 1) := by decide +kernel
theorem dX12_back_44 : decode cX12_back 44 = .ok (.isub, 1) := by decide +kernel
theorem dX12_back_45 : decode cX12_back 45 = .ok (.putfield 238, 3) := by decide +kernel
theorem dX12_back_48 : decode cX12_back 48 = .ok (.aload_n 0, 1) := by decide +kernel
theorem dX12_back_49 : decode cX12_back 49 = .ok (.getfield 569, 3) := by decide +kernel
theorem dX12_back_52 : decode cX12_back 52 = .ok (.istore_n 2, 1) := by decide +kernel
theorem dX12_back_53 : decode cX12_back 53 = .ok (.iconst 0, 1) := by decide +kernel
theorem dX12_back_54 : decode cX12_back 54 = .ok (.istore_n 3, 1) := by decide +kernel
theorem dX12_back_55 : decode cX12_back 55 = .ok (.iload_n 3, 1) := by decide +kernel
theorem dX12_back_56 : decode cX12_back 56 = .ok (.aload_n 0, 1) := by decide +kernel
theorem dX12_back_57 : decode cX12_back 57 = .ok (.getfield 231, 3) := by decide +kernel
theorem dX12_back_60 : decode cX12_back 60 = .ok (.if_icmp .ge 78, 3) := by decide +kernel
theorem dX12_back_63 : decode cX12_back 63 = .ok (.sipush 256, 3) := by decide +kernel
theorem dX12_back_66 : decode cX12_back 66 = .ok (.iload_n 2, 1) := by decide +kernel
theorem dX12_back_67 : decode cX12_back 67 = .ok (.imul, 1) := by decide +kernel
theorem dX12_back_68 : decode cX12_back 68 = .ok (.iconst 4, 1) := by decide +kernel
theorem dX12_back_69 : decode cX12_back 69 = .ok (.iload_n 3, 1) := by decide +kernel
theorem dX12_back_70 : decode cX12_back 70 = .ok (.imul, 1) := by decide +kernel
theorem dX12_back_71 : decode cX12_back 71 = .ok (.iadd, 1) := by decide +kernel
theorem dX12_back_72 : decode cX12_back 72 = .ok (.istore 4, 2) := by decide +kernel
theorem dX12_back_74 : decode cX12_back 74 = .ok (.aload_n 0, 1) := by decide +kernel
theorem dX12_back_75 : decode cX12_back 75 = .ok (.getfield 71, 3) := by decide +kernel
theorem dX12_back_78 : decode cX12_back 78 = .ok (.iload_n 3, 1) := by decide +kernel
theorem dX12_back_79 : decode cX12_back 79 = .ok (.aload_n 0, 1) := by decide +kernel
theorem dX12_back_80 : decode cX12_back 80 = .ok (.getfield 115, 3) := by decide +kernel
theorem dX12_back_83 : decode cX12_back 83 = .ok (.iload 4, 2) := by decide +kernel
theorem dX12_back_85 : decode cX12_back 85 = .ok (.iaload, 1) := by decide +kernel
theorem dX12_back_86 : decode cX12_back 86 = .ok (.iastore, 1) := by decide +kernel
theorem dX12_back_87 : decode cX12_back 87 = .ok (.aload_n 0, 1) := by decide +kernel
theorem dX12_back_88 : decode cX12_back 88 = .ok (.getfield 74, 3) := by decide +kernel
theorem dX12_back_91 : decode cX12_back 91 = .ok (.iload_n 3, 1) := by decide +kernel
theorem dX12_back_92 : decode cX12_back 92 = .ok (.aload_n 0, 1) := by decide +kernel
theorem dX12_back_93 : decode cX12_back 93 = .ok (.getfield 115, 3) := by decide +kernel
theorem dX12_back_96 : decode cX12_back 96 = .ok (.iload 4, 2) := by decide +kernel
theorem dX12_back_98 : decode cX12_back 98 = .ok (.iconst 1, 1) := by decide +kernel
theorem dX12_back_99 : decode cX12_back 99 = .ok (.iadd, 1) := by decide +kernel
theorem dX12_back_100 : decode cX12_back 100 = .ok (.iaload, 1) := by decide +kernel
theorem dX12_back_101 : decode cX12_back 101 = .ok (.iastore, 1) := by decide +kernel
theorem dX12_back_102 : decode cX12_back 102 = .ok (.aload_n 0, 1) := by decide +kernel
theorem dX12_back_103 : decode cX12_back 103 = .ok (.getfield 77, 3) := by decide +kernel
theorem dX12_back_106 : decode cX12_back 106 = .ok (.iload_n 3, 1) := by decide +kernel
theorem dX12_back_107 : decode cX12_back 107 = .ok (.aload_n 0, 1) := by decide +kernel
theorem dX12_back_108 : decode cX12_back 108 = .ok (.getfield 115, 3) := by decide +kernel
theorem dX12_back_111 : decode cX12_back 111 = .ok (.iload 4, 2) := by decide +kernel
theorem dX12_back_113 : decode cX12_back 113 = .ok (.iconst 2, 1) := by decide +kernel
theorem dX12_back_114 : decode cX12_back 114 = .ok (.iadd, 1) := by decide +kernel
theorem dX12_back_115 : decode cX12_back 115 = .ok (.iaload, 1) := by decide +kernel
theorem dX12_back_116 : decode cX12_back 116 = .ok (.iastore, 1) := by decide +kernel
theorem dX12_back_117 : decode cX12_back 117 = .ok (.aload_n 0, 1) := by decide +kernel
theorem dX12_back_118 : decode cX12_back 118 = .ok (.getfield 80, 3) := by decide +kernel
theorem dX12_back_121 : decode cX12_back 121 = .ok (.iload_n 3, 1) := by decide +kernel
theorem dX12_back_122 : decode cX12_back 122 = .ok (.aload_n 0, 1) := by decide +kernel
theorem dX12_back_123 : decode cX12_back 123 = .ok (.getfield 115, 3) := by decide +kernel
theorem dX12_back_126 : decode cX12_back 126 = .ok (.iload 4, 2) := by decide +kernel
theorem dX12_back_128 : decode cX12_back 128 = .ok (.iconst 3, 1) := by decide +kernel
theorem dX12_back_129 : decode cX12_back 129 = .ok (.iadd, 1) := by decide +kernel
theorem dX12_back_130 : decode cX12_back 130 = .ok (.iaload, 1) := by decide +kernel
theorem dX12_back_131 : decode cX12_back 131 = .ok (.iastore, 1) := by decide +kernel
theorem dX12_back_132 : decode cX12_back 132 = .ok (.iinc 3 1, 3) := by decide +kernel
theorem dX12_back_135 : decode cX12_back 135 = .ok (.goto (-80), 3) := by decide +kernel
theorem dX12_back_138 : decode cX12_back 138 = .ok (.aload_n 0, 1) := by decide +kernel
theorem dX12_back_139 : decode cX12_back 139 = .ok (.aload_n 0, 1) := by decide +kernel
theorem dX12_back_140 : decode cX12_back 140 = .ok (.getfield 118, 3) := by decide +kernel
theorem dX12_back_143 : decode cX12_back 143 = .ok (.iload_n 2, 1) := by decide +kernel
theorem dX12_back_144 : decode cX12_back 144 = .ok (.iaload, 1) := by decide +kernel
theorem dX12_back_145 : decode cX12_back 145 = .ok (.putfield 252, 3) := by decide +kernel
theorem dX12_back_148 : decode cX12_back 148 = .ok (.aload_n 0, 1) := by decide +kernel
theorem dX12_back_149 : decode cX12_back 149 = .ok (.aload_n 0, 1) := by decide +kernel
theorem dX12_back_150 : decode cX12_back 150 = .ok (.getfield 121, 3) := by decide +kernel
theorem dX12_back_153 : decode cX12_back 153 = .ok (.iload_n 2, 1) := by decide +kernel
theorem dX12_back_154 : decode cX12_back 154 = .ok (.iaload, 1) := by decide +kernel
theorem dX12_back_155 : decode cX12_back 155 = .ok (.putfield 255, 3) := by decide +kernel
theorem dX12_back_158 : decode cX12_back 158 = .ok (.aload_n 0, 1) := by decide +kernel
theorem dX12_back_159 : decode cX12_back 159 = .ok (.aload_n 0, 1) := by decide +kernel
theorem dX12_back_160 : decode cX12_back 160 = .ok (.getfield 124, 3) := by decide +kernel
theorem dX12_back_163 : decode cX12_back 163 = .ok (.iload_n 2, 1) := by decide +kernel
theorem dX12_back_164 : decode cX12_back 164 = .ok (.iaload, 1) := by decide +kernel
theorem dX12_back_165 : decode cX12_back 165 = .ok (.iconst (-1), 1) := by decide +kernel
theorem dX12_back_166 : decode cX12_back 166 = .ok (.if_icmp .eq 7, 3) := by decide +kernel
theorem dX12_back_169 : decode cX12_back 169 = .ok (.iconst 1, 1) := by decide +kernel
theorem dX12_back_170 : decode cX12_back 170 = .ok (.goto 4, 3) := by decide +kernel
theorem dX12_back_173 : decode cX12_back 173 = .ok (.iconst 0, 1) := by decide +kernel
theorem dX12_back_174 : decode cX12_back 174 = .ok (.putfield 241, 3) := by decide +kernel
theorem dX12_back_177 : decode cX12_back 177 = .ok (.aload_n 0, 1) := by decide +kernel
theorem dX12_back_178 : decode cX12_back 178 = .ok (.aload_n 0, 1) := by decide +kernel
theorem dX12_back_179 : decode cX12_back 179 = .ok (.getfield 241, 3) := by decide +kernel
theorem dX12_back_182 : decode cX12_back 182 = .ok (.ifCond .eq 12, 3) := by decide +kernel
theorem dX12_back_185 : decode cX12_back 185 = .ok (.aload_n 0, 1) := by decide +kernel
theorem dX12_back_186 : decode cX12_back 186 = .ok (.getfield 124, 3) := by decide +kernel
theorem dX12_back_189 : decode cX12_back 189 = .ok (.iload_n 2, 1) := by decide +kernel
theorem dX12_back_190 : decode cX12_back 190 = .ok (.iaload, 1) := by decide +kernel
theorem dX12_back_191 : decode cX12_back 191 = .ok (.goto 4, 3) := by decide +kernel
theorem dX12_back_194 : decode cX12_back 194 = .ok (.iconst 0, 1) := by decide +kernel
theorem dX12_back_195 : decode cX12_back 195 = .ok (.putfield 245, 3) := by decide +kernel
theorem dX12_back_198 : decode cX12_back 198 = .ok (.aload_n 0, 1) := by decide +kernel
theorem dX12_back_199 : decode cX12_back 199 = .ok (.iconst 0, 1) := by decide +kernel
theorem dX12_back_200 : decode cX12_back 200 = .ok (.putfield 572, 3) := by decide +kernel
theorem dX12_back_203 : decode cX12_back 203 = .ok (.iconst 0, 1) := by decide +kernel
theorem dX12_back_204 : decode cX12_back 204 = .ok (.istore_n 3, 1) := by decide +kernel
theorem dX12_back_205 : decode cX12_back 205 = .ok (.iload_n 3, 1) := by decide +kernel
theorem dX12_back_206 : decode cX12_back 206 = .ok (.aload_n 0, 1) := by decide +kernel
theorem dX12_back_207 : decode cX12_back 207 = .ok (.getfield 245, 3) := by decide +kernel
theorem dX12_back_210 : decode cX12_back 210 = .ok (.if_icmp .ge 82, 3) := by decide +kernel
theorem dX12_back_213 : decode cX12_back 213 = .ok (.aload_n 0, 1) := by decide +kernel
theorem dX12_back_214 : decode cX12_back 214 = .ok (.getfield 128, 3) := by decide +kernel
theorem dX12_back_217 : decode cX12_back 217 = .ok (.sipush 1600, 3) := by decide +kernel
theorem dX12_back_220 : decode cX12_back 220 = .ok (.iload_n 2, 1) := by decide +kernel
theorem dX12_back_221 : decode cX12_back 221 = .ok (.imul, 1) := by decide +kernel
theorem dX12_back_222 : decode cX12_back 222 = .ok (.iload_n 3, 1) := by decide +kernel
theorem dX12_back_223 : decode cX12_back 223 = .ok (.iadd, 1) := by decide +kernel
theorem dX12_back_224 : decode cX12_back 224 = .ok (.laload, 1) := by decide +kernel
theorem dX12_back_225 : decode cX12_back 225 = .ok (.lstore 4, 2) := by decide +kernel
theorem dX12_back_227 : decode cX12_back 227 = .ok (.aload_n 0, 1) := by decide +kernel
theorem dX12_back_228 : decode cX12_back 228 = .ok (.getfield 101, 3) := by decide +kernel
theorem dX12_back_231 : decode cX12_back 231 = .ok (.iload_n 3, 1) := by decide +kernel
theorem dX12_back_232 : decode cX12_back 232 = .ok (.lload 4, 2) := by decide +kernel
theorem dX12_back_234 : decode cX12_back 234 = .ok (.ldc2_w 575, 3) := by decide +kernel
theorem dX12_back_237 : decode cX12_back 237 = .ok (.land, 1) := by decide +kernel
theorem dX12_back_238 : decode cX12_back 238 = .ok (.l2i, 1) := by decide +kernel
theorem dX12_back_239 : decode cX12_back 239 = .ok (.iastore, 1) := by decide +kernel
theorem dX12_back_240 : decode cX12_back 240 = .ok (.aload_n 0, 1) := by decide +kernel
theorem dX12_back_241 : decode cX12_back 241 = .ok (.getfield 104, 3) := by decide +kernel
theorem dX12_back_244 : decode cX12_back 244 = .ok (.iload_n 3, 1) := by decide +kernel
theorem dX12_back_245 : decode cX12_back 245 = .ok (.lload 4, 2) := by decide +kernel
theorem dX12_back_247 : decode cX12_back 247 = .ok (.bipush 16, 2) := by decide +kernel
theorem dX12_back_249 : decode cX12_back 249 = .ok (.lshr, 1) := by decide +kernel
theorem dX12_back_250 : decode cX12_back 250 = .ok (.ldc2_w 575, 3) := by decide +kernel
theorem dX12_back_253 : decode cX12_back 253 = .ok (.land, 1) := by decide +kernel
theorem dX12_back_254 : decode cX12_back 254 = .ok (.l2i, 1) := by decide +kernel
theorem dX12_back_255 : decode cX12_back 255 = .ok (.iastore, 1) := by decide +kernel
theorem dX12_back_256 : decode cX12_back 256 = .ok (.aload_n 0, 1) := by decide +kernel
theorem dX12_back_257 : decode cX12_back 257 = .ok (.getfield 107, 3) := by decide +kernel
theorem dX12_back_260 : decode cX12_back 260 = .ok (.iload_n 3, 1) := by decide +kernel
theorem dX12_back_261 : decode cX12_back 261 = .ok (.lload 4, 2) := by decide +kernel
theorem dX12_back_263 : decode cX12_back 263 = .ok (.bipush 32, 2) := by decide +kernel
theorem dX12_back_265 : decode cX12_back 265 = .ok (.lshr, 1) := by decide +kernel
theorem dX12_back_266 : decode cX12_back 266 = .ok (.l2i, 1) := by decide +kernel
theorem dX12_back_267 : decode cX12_back 267 = .ok (.iastore, 1) := by decide +kernel
theorem dX12_back_268 : decode cX12_back 268 = .ok (.aload_n 0, 1) := by decide +kernel
theorem dX12_back_269 : decode cX12_back 269 = .ok (.getfield 110, 3) := by decide +kernel
theorem dX12_back_272 : decode cX12_back 272 = .ok (.iload_n 3, 1) := by decide +kernel
theorem dX12_back_273 : decode cX12_back 273 = .ok (.aload_n 0, 1) := by decide +kernel
theorem dX12_back_274 : decode cX12_back 274 = .ok (.getfield 131, 3) := by decide +kernel
theorem dX12_back_277 : decode cX12_back 277 = .ok (.sipush 1600, 3) := by decide +kernel
theorem dX12_back_280 : decode cX12_back 280 = .ok (.iload_n 2, 1) := by decide +kernel
theorem dX12_back_281 : decode cX12_back 281 = .ok (.imul, 1) := by decide +kernel
theorem dX12_back_282 : decode cX12_back 282 = .ok (.iload_n 3, 1) := by decide +kernel
theorem dX12_back_283 : decode cX12_back 283 = .ok (.iadd, 1) := by decide +kernel
theorem dX12_back_284 : decode cX12_back 284 = .ok (.laload, 1) := by decide +kernel
theorem dX12_back_285 : decode cX12_back 285 = .ok (.lastore, 1) := by decide +kernel
theorem dX12_back_286 : decode cX12_back 286 = .ok (.iinc 3 1, 3) := by decide +kernel
theorem dX12_back_289 : decode cX12_back 289 = .ok (.goto (-84), 3) := by decide +kernel
theorem dX12_back_292 : decode cX12_back 292 = .ok (.iconst 1, 1) := by decide +kernel
theorem dX12_back_293 : decode cX12_back 293 = .ok (.ireturn, 1) := by decide +kernel
abbrev rm_p_X12_back : Room := { frames := 0, cells := 0, slots := 0, locals := 0 }
set_option maxHeartbeats 4000000 in
set_option maxRecDepth 100000 in
theorem p_X12_back (l : Launch) (E : cE) (h0 : Nat) (r : Nat → Nat) (g : Nat → Value) (gx : Nat → Int32) (gy : Nat → Int32) (gw : Nat → Int32) (gt : Nat → Int32) (fx : Nat → Int32) (fy : Nat → Int32) (fw : Nat → Int32) (bx : Nat → Int32) (by_ : Nat → Int32) (bw : Nat → Int32) (v : Int32) (hR : mOK r g) (hI : ∀ k, k < 116 → mRef k = false → g k = mI k) (hm1 : flo (stC 0) (2 * 4) gx gy gw) (hm2 : ∀ d, d < 2 * 4 → gt d = 0) (hm3 : ∀ d, d < 2 * 4 → fx d = gx d ∧ fy d = gy d ∧ fw d = gw d) (hm4 : ∀ d, d < 2 * 4 → bx d = gx d ∧ by_ d = gy d ∧ bw d = gw d) : cM l E yX12_back cX12_back 6 (some .boolean) rm_p_X12_back [.ref h0, .int v] [(h0, ob 12 (mfs g))] (qI E (fun (r : Int32) (_u : Unit) => r = if v = 0 then 1 else 0) (fun _ => [])) := by
  refine cM_of (by decide) (Nat.le_of_ble_eq_true rfl) ?_
  intro p e s m below meth c ls A F hA hS hP hD hK hZ hl
  obtain ⟨hx, hb, hr, hml, hown, hts, hlk, hin⟩ := id F
  have hown : s.vm.findClass RX12 = some m.cls := hown
  have hl : lv_has ls 6 [(0, .ref h0), (1, .int v)] := hl
  refine lv_iload_n hx hb dX12_back_0 rfl (lv_at hl 1 rfl) ?_
  refine lv_if_lt (tgt := 12) hx hb dX12_back_1 (by decide) (fun c1 => ?_) (fun c1 => ?_)
  · refine lv_iconst (v := nI 0) hx hb dX12_back_12 (by decide) ?_
    exact cB_ret F hP hD hS hK (by decide) () (if_neg (fun e => absurd c1 (by rw [e]; decide))).symm [] rfl rfl dX12_back_13 (by decide) (by decide)
  · refine lv_iload_n hx hb dX12_back_4 rfl (lv_at hl 1 rfl) ?_
    refine lv_aload_n hx hb dX12_back_5 rfl (lv_at hl 0 rfl) ?_
    refine va_get (D := E.1) (ci := 12) (v := .int 0) (C := RX12) (T := TX12) (N := 116) hx hb hts iX12 hown hK hP 0 rfl rfl 59 (by decide) (hts _ wdF_RX12_238) (fun _ h9 => h9) ((mfs_get _ 59 (by decide)).trans (congrArg some (show (g) 59 = .int 0 from (hI 59 (by decide) rfl)))) dX12_back_6 ?_
    refine lv_icmp_le (tgt := 14) hx hb dX12_back_9 (by decide) (fun c2 => ?_) (fun c2 => ?_)
    · have c3 : v = 0 := Int32.le_antisymm c2 (Int32.not_lt.mp c1)
      refine lv_iload_n hx hb dX12_back_14 rfl (lv_at hl 1 rfl) ?_
      refine lv_if_ne (tgt := 20) hx hb dX12_back_15 (by decide) (fun c_675 => absurd c3 c_675) (fun c_675 => ?_)
      refine lv_iconst (v := nI 1) hx hb dX12_back_18 (by decide) ?_
      exact cB_ret F hP hD hS hK (by decide) () (if_pos c3).symm [] rfl rfl dX12_back_19 (by decide) (by decide)
    · refine lv_iconst (v := nI 0) hx hb dX12_back_12 (by decide) ?_
      exact cB_ret F hP hD hS hK (by decide) () (if_neg (fun e => c2 (by rw [e]; decide))).symm [] rfl rfl dX12_back_13 (by decide) (by decide)
theorem yy_X12_back : cY yX12_back cX12_back 6 (some .boolean) 1 := ⟨wdK_X12_back, wdZ_RX12, by decide +kernel⟩
theorem yi_X12_back : cYi yX12_back := ⟨wdN_X12_back, wdS_X12_back⟩
