theorem dJ3_checkIndex_8e157_0 : decode cJ3_checkIndex_8e157 0 = .ok (.iload_n 0, 1) := by decide +kernel
theorem dJ3_checkIndex_8e157_1 : decode cJ3_checkIndex_8e157 1 = .ok (.ifCond .lt 8, 3) := by decide +kernel
theorem dJ3_checkIndex_8e157_4 : decode cJ3_checkIndex_8e157 4 = .ok (.iload_n 0, 1) := by decide +kernel
theorem dJ3_checkIndex_8e157_5 : decode cJ3_checkIndex_8e157 5 = .ok (.iload_n 1, 1) := by decide +kernel
theorem dJ3_checkIndex_8e157_6 : decode cJ3_checkIndex_8e157 6 = .ok (.if_icmp .lt 10, 3) := by decide +kernel
theorem dJ3_checkIndex_8e157_9 : decode cJ3_checkIndex_8e157 9 = .ok (.aload_n 2, 1) := by decide +kernel
theorem dJ3_checkIndex_8e157_10 : decode cJ3_checkIndex_8e157 10 = .ok (.iload_n 0, 1) := by decide +kernel
theorem dJ3_checkIndex_8e157_11 : decode cJ3_checkIndex_8e157 11 = .ok (.iload_n 1, 1) := by decide +kernel
theorem dJ3_checkIndex_8e157_12 : decode cJ3_checkIndex_8e157 12 = .ok (.invokestatic 95, 3) := by decide +kernel
theorem dJ3_checkIndex_8e157_15 : decode cJ3_checkIndex_8e157 15 = .ok (.athrow, 1) := by decide +kernel
theorem dJ3_checkIndex_8e157_16 : decode cJ3_checkIndex_8e157 16 = .ok (.iload_n 0, 1) := by decide +kernel
theorem dJ3_checkIndex_8e157_17 : decode cJ3_checkIndex_8e157 17 = .ok (.ireturn, 1) := by decide +kernel
abbrev rm_c_J3_checkIndex_8e157 : Room := { frames := 0, cells := 0, slots := 0, locals := 0 }
set_option maxHeartbeats 4000000 in
set_option maxRecDepth 100000 in
theorem c_J3_checkIndex_8e157 (l : Launch) (E : cE) (i : Nat) (n : Nat) (fm : Option Nat) (hi9 : i < n) (hn9 : n < 2 ^ 31) : cM l E yJ3_checkIndex_8e157 cJ3_checkIndex_8e157 3 (some .int) rm_c_J3_checkIndex_8e157 [.int (nI i), .int (nI n), va_rf fm] [] (qI E (fun (r : Int32) (_u : Unit) => r = nI i) (fun _ => [])) := by
  refine cM_of (by decide) (by cases fm <;> exact Nat.le_of_ble_eq_true rfl) ?_
  intro p e s m below meth c ls A F hA hS hP hD hK hZ hl
  obtain ⟨hx, hb, hr, hml, hown, hts, hlk, hin⟩ := id F
  have hown : s.vm.findClass RJ3 = some m.cls := hown
  have hl : lv_has ls 3 [(0, .int (nI i)), (1, .int (nI n)), (2, va_rf fm)] := hl
  refine lv_iload_n hx hb dJ3_checkIndex_8e157_0 rfl (lv_at hl 0 rfl) ?_
  refine lv_if_lt (tgt := 9) hx hb dJ3_checkIndex_8e157_1 (by decide) (fun c_1 => absurd c_1 (nI_pos (by omega))) (fun c_1 => ?_)
  refine lv_iload_n hx hb dJ3_checkIndex_8e157_4 rfl (lv_at hl 0 rfl) ?_
  refine lv_iload_n hx hb dJ3_checkIndex_8e157_5 rfl (lv_at hl 1 rfl) ?_
  refine lv_icmp_lt (tgt := 16) hx hb dJ3_checkIndex_8e157_6 (by decide) (fun c_2 => ?_) (fun c_2 => absurd (nI_lt hi9 hn9) c_2)
  refine lv_iload_n hx hb dJ3_checkIndex_8e157_16 rfl (lv_at hl 0 rfl) ?_
  exact cI_ret F hP hD hS hK () rfl [] rfl rfl dJ3_checkIndex_8e157_17 (by decide) (by decide)
theorem yy_J3_checkIndex_8e157 : cY yJ3_checkIndex_8e157 cJ3_checkIndex_8e157 3 (some .int) 3 := ⟨wdK_J3_checkIndex_8e157, wdZ_RJ3, by decide +kernel⟩
theorem dJ0_checkIndex_df160_0 : decode cJ0_checkIndex_df160 0 = .ok (.iload_n 0, 1) := by decide +kernel
theorem dJ0_checkIndex_df160_1 : decode cJ0_checkIndex_df160 1 = .ok (.iload_n 1, 1) := by decide +kernel
theorem dJ0_checkIndex_df160_2 : decode cJ0_checkIndex_df160 2 = .ok (.getstatic 1053, 3) := by decide +kernel
theorem dJ0_checkIndex_df160_5 : decode cJ0_checkIndex_df160 5 = .ok (.invokestatic 1059, 3) := by decide +kernel
theorem dJ0_checkIndex_df160_8 : decode cJ0_checkIndex_df160 8 = .ok (.pop, 1) := by decide +kernel
theorem dJ0_checkIndex_df160_9 : decode cJ0_checkIndex_df160 9 = .ok (.return_, 1) := by decide +kernel
abbrev rm_c_J0_checkIndex_df160 : Room := { frames := 1, cells := 0, slots := 0, locals := 22 }
set_option maxHeartbeats 4000000 in
set_option maxRecDepth 100000 in
theorem c_J0_checkIndex_df160 (l : Launch) (E : cE) (i : Nat) (n : Nat) (hi9 : i < n) (hn9 : n < 2 ^ 31) : cM l E yJ0_checkIndex_df160 cJ0_checkIndex_df160 2 none rm_c_J0_checkIndex_df160 [.int (nI i), .int (nI n)] [] (qV E (fun (_u : Unit) => True) (fun _ => [])) := by
  refine cM_of (by decide) (Nat.le_of_ble_eq_true rfl) ?_
  intro p e s m below meth c ls A F hA hS hP hD hK hZ hl
  obtain ⟨hx, hb, hr, hml, hown, hts, hlk, hin⟩ := id F
  have hown : s.vm.findClass RJ0 = some m.cls := hown
  have hl : lv_has ls 2 [(0, .int (nI i)), (1, .int (nI n))] := hl
  obtain ⟨_, _, hAO, hN_RX11_18, hN_RX11_43, hN_RX11_65, hN_RX10_83, hN_RX4_22, hStr⟩ := id hZ
  refine lv_iload_n hx hb dJ0_checkIndex_df160_0 rfl (lv_at hl 0 rfl) ?_
  refine lv_iload_n hx hb dJ0_checkIndex_df160_1 rfl (lv_at hl 1 rfl) ?_
  rcases hStr.2.2.2.2 with hQ | ⟨t9, hQ⟩
  · refine va_gets (v := .null) hx hb hQ hS hown (hts _ wdF_RJ0_1053) (fun _ h => h) dJ0_checkIndex_df160_2 ?_
    refine cI_go (wr := []) (cM_runS (As := [.int (nI i), .int (nI n), va_rf none]) (rest := []) F (c_J3_checkIndex_8e157 l E i n none hi9 hn9) yy_J3_checkIndex_8e157 wdT_J3_checkIndex_8e157 wdM_RJ0_1059 hP hD hS hK hZ hA [] rfl rfl rfl hl.1 rfl (Nat.le_of_ble_eq_true rfl) dJ0_checkIndex_df160_5 ⟨by decide, by decide⟩ ⟨by decide, by decide⟩) hP hD hS hA [] [] rfl rfl rfl (by decide) (fun r_5 u_4 H locs hw_3 hP hD hS => ?_)
    try dsimp only at hw_3
    have hP : va_P E.1 vwCl [] H := hP
    have hD : va_D A [] := hD
    refine lv_pop hx hb dJ0_checkIndex_df160_8 rfl ?_
    exact cV_ret F hP hD hS hK () trivial [] rfl rfl dJ0_checkIndex_df160_9 (by decide) (by decide)
  · refine va_gets (v := .ref t9) hx hb hQ hS hown (hts _ wdF_RJ0_1053) (fun _ h => h) dJ0_checkIndex_df160_2 ?_
    refine cI_go (wr := []) (cM_runS (As := [.int (nI i), .int (nI n), va_rf (some t9)]) (rest := []) F (c_J3_checkIndex_8e157 l E i n (some t9) hi9 hn9) yy_J3_checkIndex_8e157 wdT_J3_checkIndex_8e157 wdM_RJ0_1059 hP hD hS hK hZ hA [] rfl rfl rfl hl.1 rfl (Nat.le_of_ble_eq_true rfl) dJ0_checkIndex_df160_5 ⟨by decide, by decide⟩ ⟨by decide, by decide⟩) hP hD hS hA [] [] rfl rfl rfl (by decide) (fun r_8 u_7 H locs hw_6 hP hD hS => ?_)
    try dsimp only at hw_6
    have hP : va_P E.1 vwCl [] H := hP
    have hD : va_D A [] := hD
    refine lv_pop hx hb dJ0_checkIndex_df160_8 rfl ?_
    exact cV_ret F hP hD hS hK () trivial [] rfl rfl dJ0_checkIndex_df160_9 (by decide) (by decide)
theorem yy_J0_checkIndex_df160 : cY yJ0_checkIndex_df160 cJ0_checkIndex_df160 2 none 2 := ⟨wdK_J0_checkIndex_df160, wdZ_RJ0, by decide +kernel⟩
theorem dJ1_charAt_3b067_0 : decode cJ1_charAt_3b067 0 = .ok (.iload_n 1, 1) := by decide +kernel
theorem dJ1_charAt_3b067_1 : decode cJ1_charAt_3b067 1 = .ok (.aload_n 0, 1) := by decide +kernel
theorem dJ1_charAt_3b067_2 : decode cJ1_charAt_3b067 2 = .ok (.arraylength, 1) := by decide +kernel
theorem dJ1_charAt_3b067_3 : decode cJ1_charAt_3b067 3 = .ok (.invokestatic 9, 3) := by decide +kernel
theorem dJ1_charAt_3b067_6 : decode cJ1_charAt_3b067 6 = .ok (.aload_n 0, 1) := by decide +kernel
theorem dJ1_charAt_3b067_7 : decode cJ1_charAt_3b067 7 = .ok (.iload_n 1, 1) := by decide +kernel
theorem dJ1_charAt_3b067_8 : decode cJ1_charAt_3b067 8 = .ok (.baload, 1) := by decide +kernel
theorem dJ1_charAt_3b067_9 : decode cJ1_charAt_3b067 9 = .ok (.sipush 255, 3) := by decide +kernel
theorem dJ1_charAt_3b067_12 : decode cJ1_charAt_3b067 12 = .ok (.iand, 1) := by decide +kernel
theorem dJ1_charAt_3b067_13 : decode cJ1_charAt_3b067 13 = .ok (.i2c, 1) := by decide +kernel
theorem dJ1_charAt_3b067_14 : decode cJ1_charAt_3b067 14 = .ok (.ireturn, 1) := by decide +kernel
abbrev rm_c_J1_charAt_3b067 : Room := { frames := 2, cells := 0, slots := 0, locals := 43 }
set_option maxHeartbeats 4000000 in
set_option maxRecDepth 100000 in
theorem c_J1_charAt_3b067 (l : Launch) (E : cE) (k : Nat) (hk9 : k < 182) : cM l E yJ1_charAt_3b067 cJ1_charAt_3b067 2 (some .char) rm_c_J1_charAt_3b067 [.ref (E.2.2 3), .int (nI k)] [] (qI E (fun (r : Int32) (_u : Unit) => r = ((kwB k &&& nI 255).toUInt32 % 65536).toInt32) (fun _ => [])) := by
  refine cM_of (by decide) (Nat.le_of_ble_eq_true rfl) ?_
  intro p e s m below meth c ls A F hA hS hP hD hK hZ hl
  obtain ⟨hx, hb, hr, hml, hown, hts, hlk, hin⟩ := id F
  have hown : s.vm.findClass RJ1 = some m.cls := hown
  have hl : lv_has ls 2 [(0, .ref (E.2.2 3)), (1, .int (nI k))] := hl
  obtain ⟨_, _, hAO, hN_RX11_18, hN_RX11_43, hN_RX11_65, hN_RX10_83, hN_RX4_22, hStr⟩ := id hZ
  refine lv_iload_n hx hb dJ1_charAt_3b067_0 rfl (lv_at hl 1 rfl) ?_
  refine lv_aload_n hx hb dJ1_charAt_3b067_1 rfl (lv_at hl 0 rfl) ?_
  refine va_tlen (N := 182) hx hb hStr.2.1.2.2.2 hS (v := nI 182) rfl dJ1_charAt_3b067_2 ?_
  refine cV_go (wr := []) (cM_runS (As := [.int (nI k), .int (nI 182)]) (rest := []) F (c_J0_checkIndex_df160 l E k 182 hk9 (by decide)) yy_J0_checkIndex_df160 wdT_J0_checkIndex_df160 wdM_RJ1_9 hP hD hS hK hZ hA [] rfl rfl rfl hl.1 rfl (Nat.le_of_ble_eq_true rfl) dJ1_charAt_3b067_3 ⟨by decide, by decide⟩ ⟨by decide, by decide⟩) hP hD hS hA [] [] rfl rfl rfl (by decide) (fun u_10 H locs hw_9 hP hD hS => ?_)
  try dsimp only at hw_9
  have hP : va_P E.1 vwCl [] H := hP
  have hD : va_D A [] := hD
  refine lv_aload_n hx hb dJ1_charAt_3b067_6 rfl (lv_at hl 0 rfl) ?_
  refine lv_iload_n hx hb dJ1_charAt_3b067_7 rfl (lv_at hl 1 rfl) ?_
  refine va_tb (v := .int (kwB k)) hx hb hStr.2.1.2.2.2 hS (i := nI k) (vp_in_nI hk9 (by decide)) (by rw [nI_clamp (by omega)]) dJ1_charAt_3b067_8 ?_
  refine lv_sipush (v := nI 255) hx hb dJ1_charAt_3b067_9 (by decide) ?_
  refine lv_iand hx hb dJ1_charAt_3b067_12 ?_
  refine lv_i2c hx hb dJ1_charAt_3b067_13 rfl ?_
  exact cC_ret F hP hD hS hK (pk_nc _) () rfl [] rfl rfl dJ1_charAt_3b067_14 (by decide) (by decide)
theorem yy_J1_charAt_3b067 : cY yJ1_charAt_3b067 cJ1_charAt_3b067 2 (some .char) 2 := ⟨wdK_J1_charAt_3b067, wdZ_RJ1, by decide +kernel⟩
theorem dJ0_coder_7d493_0 : decode cJ0_coder_7d493 0 = .ok (.getstatic 38, 3) := by decide +kernel
theorem dJ0_coder_7d493_3 : decode cJ0_coder_7d493 3 = .ok (.ifCond .eq 10, 3) := by decide +kernel
theorem dJ0_coder_7d493_6 : decode cJ0_coder_7d493 6 = .ok (.aload_n 0, 1) := by decide +kernel
theorem dJ0_coder_7d493_7 : decode cJ0_coder_7d493 7 = .ok (.getfield 15, 3) := by decide +kernel
theorem dJ0_coder_7d493_10 : decode cJ0_coder_7d493 10 = .ok (.goto 4, 3) := by decide +kernel
theorem dJ0_coder_7d493_13 : decode cJ0_coder_7d493 13 = .ok (.iconst 1, 1) := by decide +kernel
theorem dJ0_coder_7d493_14 : decode cJ0_coder_7d493 14 = .ok (.ireturn, 1) := by decide +kernel
abbrev rm_c_J0_coder_7d493 : Room := { frames := 0, cells := 0, slots := 0, locals := 0 }
set_option maxHeartbeats 4000000 in
set_option maxRecDepth 100000 in
theorem c_J0_coder_7d493 (l : Launch) (E : cE) : cM l E yJ0_coder_7d493 cJ0_coder_7d493 1 (some .byte) rm_c_J0_coder_7d493 [.ref (E.2.2 2)] [] (qI E (fun (r : Int32) (_u : Unit) => r = 0) (fun _ => [])) := by
  refine cM_of (by decide) (Nat.le_of_ble_eq_true rfl) ?_
  intro p e s m below meth c ls A F hA hS hP hD hK hZ hl
  obtain ⟨hx, hb, hr, hml, hown, hts, hlk, hin⟩ := id F
  have hown : s.vm.findClass RJ0 = some m.cls := hown
  have hl : lv_has ls 1 [(0, .ref (E.2.2 2))] := hl
  obtain ⟨_, _, hAO, hN_RX11_18, hN_RX11_43, hN_RX11_65, hN_RX10_83, hN_RX4_22, hStr⟩ := id hZ
  refine va_gets (v := .int 1) hx hb hStr.2.2.2.1 hS hown (hts _ wdF_RJ0_38) (fun _ h => h) dJ0_coder_7d493_0 ?_
  refine lv_if_eq (tgt := 13) hx hb dJ0_coder_7d493_3 (by decide) (fun c_12 => absurd c_12 (by decide)) (fun c_12 => ?_)
  refine lv_aload_n hx hb dJ0_coder_7d493_6 rfl (lv_at hl 0 rfl) ?_
  refine vk_getf (v := .int 0) hx hb hStr.2.1.2.1 hS hown (hts _ wdF_RJ0_15) (fun _ h => h) dJ0_coder_7d493_7 ?_
  refine lv_goto (tgt := 14) hx hb dJ0_coder_7d493_10 (by decide) ?_
  exact cC_ret F hP hD hS hK (by decide) () rfl [] rfl rfl dJ0_coder_7d493_14 (by decide) (by decide)
theorem yy_J0_coder_7d493 : cY yJ0_coder_7d493 cJ0_coder_7d493 1 (some .byte) 0 := ⟨wdK_J0_coder_7d493, wdZ_RJ0, by decide +kernel⟩
theorem yi_J0_coder_7d493 : cYi yJ0_coder_7d493 := ⟨wdN_J0_coder_7d493, wdS_J0_coder_7d493⟩
theorem dJ0_isLatin1_aae02_0 : decode cJ0_isLatin1_aae02 0 = .ok (.getstatic 38, 3) := by decide +kernel
theorem dJ0_isLatin1_aae02_3 : decode cJ0_isLatin1_aae02 3 = .ok (.ifCond .eq 14, 3) := by decide +kernel
theorem dJ0_isLatin1_aae02_6 : decode cJ0_isLatin1_aae02 6 = .ok (.aload_n 0, 1) := by decide +kernel
theorem dJ0_isLatin1_aae02_7 : decode cJ0_isLatin1_aae02 7 = .ok (.getfield 15, 3) := by decide +kernel
theorem dJ0_isLatin1_aae02_10 : decode cJ0_isLatin1_aae02 10 = .ok (.ifCond .ne 7, 3) := by decide +kernel
theorem dJ0_isLatin1_aae02_13 : decode cJ0_isLatin1_aae02 13 = .ok (.iconst 1, 1) := by decide +kernel
theorem dJ0_isLatin1_aae02_14 : decode cJ0_isLatin1_aae02 14 = .ok (.goto 4, 3) := by decide +kernel
theorem dJ0_isLatin1_aae02_17 : decode cJ0_isLatin1_aae02 17 = .ok (.iconst 0, 1) := by decide +kernel
theorem dJ0_isLatin1_aae02_18 : decode cJ0_isLatin1_aae02 18 = .ok (.ireturn, 1) := by decide +kernel
abbrev rm_c_J0_isLatin1_aae02 : Room := { frames := 0, cells := 0, slots := 0, locals := 0 }
set_option maxHeartbeats 4000000 in
set_option maxRecDepth 100000 in
theorem c_J0_isLatin1_aae02 (l : Launch) (E : cE) : cM l E yJ0_isLatin1_aae02 cJ0_isLatin1_aae02 1 (some .boolean) rm_c_J0_isLatin1_aae02 [.ref (E.2.2 2)] [] (qI E (fun (r : Int32) (_u : Unit) => r = 1) (fun _ => [])) := by
  refine cM_of (by decide) (Nat.le_of_ble_eq_true rfl) ?_
  intro p e s m below meth c ls A F hA hS hP hD hK hZ hl
  obtain ⟨hx, hb, hr, hml, hown, hts, hlk, hin⟩ := id F
  have hown : s.vm.findClass RJ0 = some m.cls := hown
  have hl : lv_has ls 1 [(0, .ref (E.2.2 2))] := hl
  obtain ⟨_, _, hAO, hN_RX11_18, hN_RX11_43, hN_RX11_65, hN_RX10_83, hN_RX4_22, hStr⟩ := id hZ
  refine va_gets (v := .int 1) hx hb hStr.2.2.2.1 hS hown (hts _ wdF_RJ0_38) (fun _ h => h) dJ0_isLatin1_aae02_0 ?_
  refine lv_if_eq (tgt := 17) hx hb dJ0_isLatin1_aae02_3 (by decide) (fun c_13 => absurd c_13 (by decide)) (fun c_13 => ?_)
  refine lv_aload_n hx hb dJ0_isLatin1_aae02_6 rfl (lv_at hl 0 rfl) ?_
  refine vk_getf (v := .int 0) hx hb hStr.2.1.2.1 hS hown (hts _ wdF_RJ0_15) (fun _ h => h) dJ0_isLatin1_aae02_7 ?_
  refine lv_if_ne (tgt := 17) hx hb dJ0_isLatin1_aae02_10 (by decide) (fun c_14 => absurd (by decide) c_14) (fun c_14 => ?_)
  refine lv_iconst (v := nI 1) hx hb dJ0_isLatin1_aae02_13 (by decide) ?_
  refine lv_goto (tgt := 18) hx hb dJ0_isLatin1_aae02_14 (by decide) ?_
  exact cB_ret F hP hD hS hK (by decide) () rfl [] rfl rfl dJ0_isLatin1_aae02_18 (by decide) (by decide)
theorem yy_J0_isLatin1_aae02 : cY yJ0_isLatin1_aae02 cJ0_isLatin1_aae02 1 (some .boolean) 0 := ⟨wdK_J0_isLatin1_aae02, wdZ_RJ0, by decide +kernel⟩
theorem yi_J0_isLatin1_aae02 : cYi yJ0_isLatin1_aae02 := ⟨wdN_J0_isLatin1_aae02, wdS_J0_isLatin1_aae02⟩
theorem dJ0_length_8abf5_0 : decode cJ0_length_8abf5 0 = .ok (.aload_n 0, 1) := by decide +kernel
theorem dJ0_length_8abf5_1 : decode cJ0_length_8abf5 1 = .ok (.getfield 9, 3) := by decide +kernel
theorem dJ0_length_8abf5_4 : decode cJ0_length_8abf5 4 = .ok (.arraylength, 1) := by decide +kernel
theorem dJ0_length_8abf5_5 : decode cJ0_length_8abf5 5 = .ok (.aload_n 0, 1) := by decide +kernel
theorem dJ0_length_8abf5_6 : decode cJ0_length_8abf5 6 = .ok (.invokevirtual 335, 3) := by decide +kernel
theorem dJ0_length_8abf5_9 : decode cJ0_length_8abf5 9 = .ok (.ishr, 1) := by decide +kernel
theorem dJ0_length_8abf5_10 : decode cJ0_length_8abf5 10 = .ok (.ireturn, 1) := by decide +kernel
abbrev rm_c_J0_length_8abf5 : Room := { frames := 1, cells := 0, slots := 0, locals := 20 }
set_option maxHeartbeats 4000000 in
set_option maxRecDepth 100000 in
theorem c_J0_length_8abf5 (l : Launch) (E : cE) : cM l E yJ0_length_8abf5 cJ0_length_8abf5 1 (some .int) rm_c_J0_length_8abf5 [.ref (E.2.2 2)] [] (qI E (fun (r : Int32) (_u : Unit) => r = nI 182) (fun _ => [])) := by
  refine cM_of (by decide) (Nat.le_of_ble_eq_true rfl) ?_
  intro p e s m below meth c ls A F hA hS hP hD hK hZ hl
  obtain ⟨hx, hb, hr, hml, hown, hts, hlk, hin⟩ := id F
  have hown : s.vm.findClass RJ0 = some m.cls := hown
  have hl : lv_has ls 1 [(0, .ref (E.2.2 2))] := hl
  obtain ⟨_, _, hAO, hN_RX11_18, hN_RX11_43, hN_RX11_65, hN_RX10_83, hN_RX4_22, hStr⟩ := id hZ
  refine lv_aload_n hx hb dJ0_length_8abf5_0 rfl (lv_at hl 0 rfl) ?_
  refine vk_getf (v := .ref (E.2.2 3)) hx hb hStr.2.1.2.2.1 hS hown (hts _ wdF_RJ0_9) (fun _ h => h) dJ0_length_8abf5_1 ?_
  refine va_tlen (N := 182) hx hb hStr.2.1.2.2.2 hS (v := nI 182) rfl dJ0_length_8abf5_4 ?_
  refine lv_aload_n hx hb dJ0_length_8abf5_5 rfl (lv_at hl 0 rfl) ?_
  refine cI_go (wr := []) (cM_runVS (As := []) (rest := [.int (nI 182)]) F (c_J0_coder_7d493 l E) yy_J0_coder_7d493 yi_J0_coder_7d493 wdM_RJ0_335 hP hD hS hK hZ hA [] rfl rfl hStr.2.1.1 rfl hl.1 rfl (Nat.le_of_ble_eq_true rfl) dJ0_length_8abf5_6 ⟨by decide, by decide⟩ ⟨by decide, by decide⟩) hP hD hS hA [] [] rfl rfl rfl (by decide) (fun r_17 u_16 H locs hw_15 hP hD hS => ?_)
  try dsimp only at hw_15
  have hP : va_P E.1 vwCl [] H := hP
  have hD : va_D A [] := hD
  subst hw_15
  refine lv_ishr hx hb dJ0_length_8abf5_9 ?_
  rw [show ((nI 182) >>> (0 &&& 31) : Int32) = nI 182 from by decide]
  exact cI_ret F hP hD hS hK () rfl [] rfl rfl dJ0_length_8abf5_10 (by decide) (by decide)
theorem yy_J0_length_8abf5 : cY yJ0_length_8abf5 cJ0_length_8abf5 1 (some .int) 0 := ⟨wdK_J0_length_8abf5, wdZ_RJ0, by decide +kernel⟩
theorem yi_J0_length_8abf5 : cYi yJ0_length_8abf5 := ⟨wdN_J0_length_8abf5, wdS_J0_length_8abf5⟩
theorem dJ0_charAt_5068e_0 : decode cJ0_charAt_5068e 0 = .ok (.aload_n 0, 1) := by decide +kernel
theorem dJ0_charAt_5068e_1 : decode cJ0_charAt_5068e 1 = .ok (.invokevirtual 492, 3) := by decide +kernel
theorem dJ0_charAt_5068e_4 : decode cJ0_charAt_5068e 4 = .ok (.ifCond .eq 12, 3) := by decide +kernel
theorem dJ0_charAt_5068e_7 : decode cJ0_charAt_5068e 7 = .ok (.aload_n 0, 1) := by decide +kernel
theorem dJ0_charAt_5068e_8 : decode cJ0_charAt_5068e 8 = .ok (.getfield 9, 3) := by decide +kernel
theorem dJ0_charAt_5068e_11 : decode cJ0_charAt_5068e 11 = .ok (.iload_n 1, 1) := by decide +kernel
theorem dJ0_charAt_5068e_12 : decode cJ0_charAt_5068e 12 = .ok (.invokestatic 495, 3) := by decide +kernel
theorem dJ0_charAt_5068e_15 : decode cJ0_charAt_5068e 15 = .ok (.ireturn, 1) := by decide +kernel
theorem dJ0_charAt_5068e_16 : decode cJ0_charAt_5068e 16 = .ok (.aload_n 0, 1) := by decide +kernel
theorem dJ0_charAt_5068e_17 : decode cJ0_charAt_5068e 17 = .ok (.getfield 9, 3) := by decide +kernel
theorem dJ0_charAt_5068e_20 : decode cJ0_charAt_5068e 20 = .ok (.iload_n 1, 1) := by decide +kernel
theorem dJ0_charAt_5068e_21 : decode cJ0_charAt_5068e 21 = .ok (.invokestatic 498, 3) := by decide +kernel
theorem dJ0_charAt_5068e_24 : decode cJ0_charAt_5068e 24 = .ok (.ireturn, 1) := by decide +kernel
abbrev rm_c_J0_charAt_5068e : Room := { frames := 3, cells := 0, slots := 0, locals := 64 }
set_option maxHeartbeats 4000000 in
set_option maxRecDepth 100000 in
theorem c_J0_charAt_5068e (l : Launch) (E : cE) (k : Nat) (hk9 : k < 182) : cM l E yJ0_charAt_5068e cJ0_charAt_5068e 2 (some .char) rm_c_J0_charAt_5068e [.ref (E.2.2 2), .int (nI k)] [] (qI E (fun (r : Int32) (_u : Unit) => r = ((kwB k &&& nI 255).toUInt32 % 65536).toInt32) (fun _ => [])) := by
  refine cM_of (by decide) (Nat.le_of_ble_eq_true rfl) ?_
  intro p e s m below meth c ls A F hA hS hP hD hK hZ hl
  obtain ⟨hx, hb, hr, hml, hown, hts, hlk, hin⟩ := id F
  have hown : s.vm.findClass RJ0 = some m.cls := hown
  have hl : lv_has ls 2 [(0, .ref (E.2.2 2)), (1, .int (nI k))] := hl
  obtain ⟨_, _, hAO, hN_RX11_18, hN_RX11_43, hN_RX11_65, hN_RX10_83, hN_RX4_22, hStr⟩ := id hZ
  refine lv_aload_n hx hb dJ0_charAt_5068e_0 rfl (lv_at hl 0 rfl) ?_
  refine cI_go (wr := []) (cM_runVS (As := []) (rest := []) F (c_J0_isLatin1_aae02 l E) yy_J0_isLatin1_aae02 yi_J0_isLatin1_aae02 wdM_RJ0_492 hP hD hS hK hZ hA [] rfl rfl hStr.2.1.1 rfl hl.1 rfl (Nat.le_of_ble_eq_true rfl) dJ0_charAt_5068e_1 ⟨by decide, by decide⟩ ⟨by decide, by decide⟩) hP hD hS hA [] [] rfl rfl rfl (by decide) (fun r_20 u_19 H locs hw_18 hP hD hS => ?_)
  try dsimp only at hw_18
  have hP : va_P E.1 vwCl [] H := hP
  have hD : va_D A [] := hD
  subst hw_18
  refine lv_if_eq (tgt := 16) hx hb dJ0_charAt_5068e_4 (by decide) (fun c_21 => absurd c_21 (by decide)) (fun c_21 => ?_)
  refine lv_aload_n hx hb dJ0_charAt_5068e_7 rfl (lv_at hl 0 rfl) ?_
  refine vk_getf (v := .ref (E.2.2 3)) hx hb hStr.2.1.2.2.1 hS hown (hts _ wdF_RJ0_9) (fun _ h => h) dJ0_charAt_5068e_8 ?_
  refine lv_iload_n hx hb dJ0_charAt_5068e_11 rfl (lv_at hl 1 rfl) ?_
  refine cI_go (wr := []) (cM_runS (As := [.ref (E.2.2 3), .int (nI k)]) (rest := []) F (c_J1_charAt_3b067 l E k hk9) yy_J1_charAt_3b067 wdT_J1_charAt_3b067 wdM_RJ0_495 hP hD hS hK hZ hA [] rfl rfl rfl hl.1 rfl (Nat.le_of_ble_eq_true rfl) dJ0_charAt_5068e_12 ⟨by decide, by decide⟩ ⟨by decide, by decide⟩) hP hD hS hA [] [] rfl rfl rfl (by decide) (fun r_24 u_23 H locs hw_22 hP hD hS => ?_)
  try dsimp only at hw_22
  have hP : va_P E.1 vwCl [] H := hP
  have hD : va_D A [] := hD
  subst hw_22
  exact cC_ret F hP hD hS hK (pk_nc _) () rfl [] rfl rfl dJ0_charAt_5068e_15 (by decide) (by decide)
theorem yy_J0_charAt_5068e : cY yJ0_charAt_5068e cJ0_charAt_5068e 2 (some .char) 1 := ⟨wdK_J0_charAt_5068e, wdZ_RJ0, by decide +kernel⟩
theorem yi_J0_charAt_5068e : cYi yJ0_charAt_5068e := ⟨wdN_J0_charAt_5068e, wdS_J0_charAt_5068e⟩
