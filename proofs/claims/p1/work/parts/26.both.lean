theorem dX4_latest_0 : decode cX4_latest 0 = .ok (.iload_n 1, 1) := by decide +kernel
theorem dX4_latest_1 : decode cX4_latest 1 = .ok (.ifCond .lt 35, 3) := by decide +kernel
theorem dX4_latest_4 : decode cX4_latest 4 = .ok (.iload_n 1, 1) := by decide +kernel
theorem dX4_latest_5 : decode cX4_latest 5 = .ok (.aload_n 0, 1) := by decide +kernel
theorem dX4_latest_6 : decode cX4_latest 6 = .ok (.getfield 15, 3) := by decide +kernel
theorem dX4_latest_9 : decode cX4_latest 9 = .ok (.if_icmp .gt 27, 3) := by decide +kernel
theorem dX4_latest_12 : decode cX4_latest 12 = .ok (.aload_n 0, 1) := by decide +kernel
theorem dX4_latest_13 : decode cX4_latest 13 = .ok (.getfield 11, 3) := by decide +kernel
theorem dX4_latest_16 : decode cX4_latest 16 = .ok (.aload_n 0, 1) := by decide +kernel
theorem dX4_latest_17 : decode cX4_latest 17 = .ok (.getfield 19, 3) := by decide +kernel
theorem dX4_latest_20 : decode cX4_latest 20 = .ok (.iload_n 1, 1) := by decide +kernel
theorem dX4_latest_21 : decode cX4_latest 21 = .ok (.isub, 1) := by decide +kernel
theorem dX4_latest_22 : decode cX4_latest 22 = .ok (.sipush 200, 3) := by decide +kernel
theorem dX4_latest_25 : decode cX4_latest 25 = .ok (.iadd, 1) := by decide +kernel
theorem dX4_latest_26 : decode cX4_latest 26 = .ok (.iconst 1, 1) := by decide +kernel
theorem dX4_latest_27 : decode cX4_latest 27 = .ok (.iadd, 1) := by decide +kernel
theorem dX4_latest_28 : decode cX4_latest 28 = .ok (.sipush 201, 3) := by decide +kernel
theorem dX4_latest_31 : decode cX4_latest 31 = .ok (.irem, 1) := by decide +kernel
theorem dX4_latest_32 : decode cX4_latest 32 = .ok (.aaload, 1) := by decide +kernel
theorem dX4_latest_33 : decode cX4_latest 33 = .ok (.goto 4, 3) := by decide +kernel
theorem dX4_latest_36 : decode cX4_latest 36 = .ok (.aconst_null, 1) := by decide +kernel
theorem dX4_latest_37 : decode cX4_latest 37 = .ok (.areturn, 1) := by decide +kernel
abbrev rm_p_X4_latest : Room := { frames := 0, cells := 0, slots := 0, locals := 0 }
set_option maxHeartbeats 4000000 in
set_option maxRecDepth 100000 in
theorem p_X4_latest (l : Launch) (E : cE) (h0 : Nat) (ad : Nat → Nat) (gx : Nat → Int32) (gy : Nat → Int32) (gf : Nat → Int32) (v2 : Int32) (gt : Nat → Int32) (gh : Nat → Int32) (gc : Nat → Int32) : cM l E yX4_latest cX4_latest 2 (some (.object "CallerHall$Moment")) rm_p_X4_latest [.ref (ad 59), .int (nI 0)] [((ad 59), ob 4 [.ref (ad 60), .int 0, .int 0]), ((ad 60), aQ E 201 (fun _ => none))] (qQ E (fun (r : Option Nat) (_u : Unit) => r = none) (fun _ => [((ad 59), ob 4 [.ref (ad 60), .int 0, .int 0]), ((ad 60), aQ E 201 (fun _ => none))])) := by
  refine cM_of (by decide) (Nat.le_of_ble_eq_true rfl) ?_
  intro p e s m below meth c ls A F hA hS hP hD hK hZ hl
  obtain ⟨hx, hb, hr, hml, hown, hts, hlk, hin⟩ := id F
  have hown : s.vm.findClass RX4 = some m.cls := hown
  have hl : lv_has ls 2 [(0, .ref (ad 59)), (1, .int (nI 0))] := hl
  refine lv_iload_n hx hb dX4_latest_0 rfl (lv_at hl 1 rfl) ?_
  refine lv_if_lt (tgt := 36) hx hb dX4_latest_1 (by decide) (fun c_939 => absurd c_939 (by decide)) (fun c_939 => ?_)
  refine lv_iload_n hx hb dX4_latest_4 rfl (lv_at hl 1 rfl) ?_
  refine lv_aload_n hx hb dX4_latest_5 rfl (lv_at hl 0 rfl) ?_
  refine va_get (D := E.1) (ci := 4) (v := .int 0) (C := RX4) (T := TX4) (N := 3) hx hb hts iX4 hown hK hP 0 rfl rfl 2 (by decide) (hts _ wdF_RX4_15) (fun _ h9 => h9) rfl dX4_latest_6 ?_
  refine lv_icmp_gt (tgt := 36) hx hb dX4_latest_9 (by decide) (fun c_940 => absurd c_940 (by decide)) (fun c_940 => ?_)
  refine lv_aload_n hx hb dX4_latest_12 rfl (lv_at hl 0 rfl) ?_
  refine va_get (D := E.1) (ci := 4) (v := .ref (ad 60)) (C := RX4) (T := TX4) (N := 3) hx hb hts iX4 hown hK hP 0 rfl rfl 0 (by decide) (hts _ wdF_RX4_11) (fun _ h9 => h9) rfl dX4_latest_13 ?_
  refine lv_aload_n hx hb dX4_latest_16 rfl (lv_at hl 0 rfl) ?_
  refine va_get (D := E.1) (ci := 4) (v := .int 0) (C := RX4) (T := TX4) (N := 3) hx hb hts iX4 hown hK hP 0 rfl rfl 1 (by decide) (hts _ wdF_RX4_19) (fun _ h9 => h9) rfl dX4_latest_17 ?_
  refine lv_iload_n hx hb dX4_latest_20 rfl (lv_at hl 1 rfl) ?_
  refine lv_isub hx hb dX4_latest_21 ?_
  rw [show (0 - (nI 0) : Int32) = nI 0 from by decide]
  refine lv_sipush (v := nI 200) hx hb dX4_latest_22 (by decide) ?_
  refine lv_iadd hx hb dX4_latest_25 ?_
  rw [show ((nI 0) + (nI 200) : Int32) = nI 200 from by decide]
  refine lv_iconst (v := nI 1) hx hb dX4_latest_26 (by decide) ?_
  refine lv_iadd hx hb dX4_latest_27 ?_
  rw [show ((nI 200) + (nI 1) : Int32) = nI 201 from by decide]
  refine lv_sipush (v := nI 201) hx hb dX4_latest_28 (by decide) ?_
  refine lv_irem hx hb dX4_latest_31 (by decide) ?_
  rw [show ((nI 201) - (nI 201) / (nI 201) * (nI 201) : Int32) = nI 0 from by decide +kernel]
  refine va_aldq hx hb hK hP 1 4 rfl rfl (vp_in_nI (by decide) (by decide)) dX4_latest_32 ?_
  refine lv_goto (tgt := 37) hx hb dX4_latest_33 (by decide) ?_
  exact cQ_ret (v := none) F hP hD hS hK () rfl [0, 1] rfl rfl dX4_latest_37 (by decide) (by decide)
theorem yy_X4_latest : cY yX4_latest cX4_latest 2 (some (.object "CallerHall$Moment")) 1 := ⟨wdK_X4_latest, wdZ_RX4, by decide +kernel⟩
theorem yi_X4_latest : cYi yX4_latest := ⟨wdN_X4_latest, wdS_X4_latest⟩
theorem dX11_back_0 : decode cX11_back 0 = .ok (.iload_n 1, 1) := by decide +kernel
theorem dX11_back_1 : decode cX11_back 1 = .ok (.ifCond .lt 14, 3) := by decide +kernel
theorem dX11_back_4 : decode cX11_back 4 = .ok (.iload_n 1, 1) := by decide +kernel
theorem dX11_back_5 : decode cX11_back 5 = .ok (.aload_n 0, 1) := by decide +kernel
theorem dX11_back_6 : decode cX11_back 6 = .ok (.getfield 66, 3) := by decide +kernel
theorem dX11_back_9 : decode cX11_back 9 = .ok (.getfield 195, 3) := by decide +kernel
theorem dX11_back_12 : decode cX11_back 12 = .ok (.if_icmp .le 5, 3) := by decide +kernel
theorem dX11_back_15 : decode cX11_back 15 = .ok (.iconst 0, 1) := by decide +kernel
theorem dX11_back_16 : decode cX11_back 16 = .ok (.ireturn, 1) := by decide +kernel
theorem dX11_back_17 : decode cX11_back 17 = .ok (.aload_n 0, 1) := by decide +kernel
theorem dX11_back_18 : decode cX11_back 18 = .ok (.getfield 66, 3) := by decide +kernel
theorem dX11_back_21 : decode cX11_back 21 = .ok (.iload_n 1, 1) := by decide +kernel
theorem dX11_back_22 : decode cX11_back 22 = .ok (.invokevirtual 196, 3) := by decide +kernel
theorem dX11_back_25 : decode cX11_back 25 = .ok (.astore_n 2, 1) := by decide +kernel
theorem dX11_back_26 : decode cX11_back 26 = .ok (.iload_n 1, 1) := by decide +kernel
theorem dX11_back_27 : decode cX11_back 27 = .ok (.ifCond .le 43, 3) := by decide +kernel
theorem dX11_back_30 : decode cX11_back 30 = .ok (.aload_n 2, 1) := by decide +kernel
theorem dX11_back_31 : decode cX11_back 31 = .ok (.ifnull 39, 3) := by decide +kernel
theorem dX11_back_34 : decode cX11_back 34 = .ok (.aload_n 2, 1) := by decide +kernel
theorem dX11_back_35 : decode cX11_back 35 = .ok (.aload_n 0, 1) := by decide +kernel
theorem dX11_back_36 : decode cX11_back 36 = .ok (.getfield 44, 3) := by decide +kernel
theorem dX11_back_39 : decode cX11_back 39 = .ok (.aload_n 0, 1) := by decide +kernel
theorem dX11_back_40 : decode cX11_back 40 = .ok (.getfield 56, 3) := by decide +kernel
theorem dX11_back_43 : decode cX11_back 43 = .ok (.invokevirtual 200, 3) := by decide +kernel
theorem dX11_back_46 : decode cX11_back 46 = .ok (.aload_n 0, 1) := by decide +kernel
theorem dX11_back_47 : decode cX11_back 47 = .ok (.aload_n 2, 1) := by decide +kernel
theorem dX11_back_48 : decode cX11_back 48 = .ok (.getfield 206, 3) := by decide +kernel
theorem dX11_back_51 : decode cX11_back 51 = .ok (.putfield 158, 3) := by decide +kernel
theorem dX11_back_54 : decode cX11_back 54 = .ok (.aload_n 0, 1) := by decide +kernel
theorem dX11_back_55 : decode cX11_back 55 = .ok (.aload_n 2, 1) := by decide +kernel
theorem dX11_back_56 : decode cX11_back 56 = .ok (.getfield 207, 3) := by decide +kernel
theorem dX11_back_59 : decode cX11_back 59 = .ok (.putfield 161, 3) := by decide +kernel
theorem dX11_back_62 : decode cX11_back 62 = .ok (.aload_n 0, 1) := by decide +kernel
theorem dX11_back_63 : decode cX11_back 63 = .ok (.getfield 66, 3) := by decide +kernel
theorem dX11_back_66 : decode cX11_back 66 = .ok (.iload_n 1, 1) := by decide +kernel
theorem dX11_back_67 : decode cX11_back 67 = .ok (.invokevirtual 208, 3) := by decide +kernel
theorem dX11_back_70 : decode cX11_back 70 = .ok (.iconst 1, 1) := by decide +kernel
theorem dX11_back_71 : decode cX11_back 71 = .ok (.ireturn, 1) := by decide +kernel
abbrev rm_p_X11_back : Room := { frames := 1, cells := 0, slots := 0, locals := 21 }
set_option maxHeartbeats 4000000 in
set_option maxRecDepth 100000 in
theorem p_X11_back (l : Launch) (E : cE) (h0 : Nat) (ad : Nat → Nat) (gx : Nat → Int32) (gy : Nat → Int32) (gf : Nat → Int32) (v2 : Int32) (gt : Nat → Int32) (gh : Nat → Int32) (gc : Nat → Int32) (v : Int32) (hw1 : flo (stC 0) (2 * 4) gx gy gf) (hw3 : ∀ d, d < 2 * 4 → gt d = 0) (hw4 : ∀ d, d < 2 * 4 → gh d = nI (stC 0 d)) (hw5 : ∀ d, d < 2 * 4 → gc d = nI (stC 0 d)) : cM l E yX11_back cX11_back 3 (some .boolean) rm_p_X11_back [.ref h0, .int v] [(h0, ob 11 [.ref (ad 0), .ref (ad 7), .ref (ad 28), .ref (ad 30), .ref (ad 76), .ref (ad 46), .ref (ad 55), .ref (ad 57), .ref (ad 59), .ref (ad 61), .ref (ad 80), .int 0, .int 0, .int 0, .int (-1), .int (-1), .int (-1)]), ((ad 59), ob 4 [.ref (ad 60), .int 0, .int 0]), ((ad 60), aQ E 201 (fun _ => none))] (qI E (fun (r : Int32) (_u : Unit) => r = if v = 0 then 1 else 0) (fun _ => [])) := by
  refine cM_of (by decide) (Nat.le_of_ble_eq_true rfl) ?_
  intro p e s m below meth c ls A F hA hS hP hD hK hZ hl
  obtain ⟨hx, hb, hr, hml, hown, hts, hlk, hin⟩ := id F
  have hown : s.vm.findClass RX11 = some m.cls := hown
  have hl : lv_has ls 3 [(0, .ref h0), (1, .int v)] := hl
  refine lv_iload_n hx hb dX11_back_0 rfl (lv_at hl 1 rfl) ?_
  refine lv_if_lt (tgt := 15) hx hb dX11_back_1 (by decide) (fun c1 => ?_) (fun c1 => ?_)
  · refine lv_iconst (v := nI 0) hx hb dX11_back_15 (by decide) ?_
    exact cB_ret F hP hD hS hK (by decide) () (if_neg (fun e => absurd c1 (by rw [e]; decide))).symm [] rfl rfl dX11_back_16 (by decide) (by decide)
  · refine lv_iload_n hx hb dX11_back_4 rfl (lv_at hl 1 rfl) ?_
    refine lv_aload_n hx hb dX11_back_5 rfl (lv_at hl 0 rfl) ?_
    refine va_get (D := E.1) (ci := 11) (v := .ref (ad 59)) (C := RX11) (T := TX11) (N := 17) hx hb hts iX11 hown hK hP 0 rfl rfl 8 (by decide) (hts _ wdF_RX11_66) (fun _ h9 => h9) rfl dX11_back_6 ?_
    refine va_get (D := E.1) (ci := 4) (v := .int 0) (C := RX4) (T := TX4) (N := 3) hx hb hts iX4 hown hK hP 1 rfl rfl 2 (by decide) (hts _ wdF_RX11_195) (fun _ h9 => h9) rfl dX11_back_9 ?_
    refine lv_icmp_le (tgt := 17) hx hb dX11_back_12 (by decide) (fun c2 => ?_) (fun c2 => ?_)
    · have c3 : v = nI 0 := Int32.le_antisymm c2 (Int32.not_lt.mp c1)
      subst c3
      refine lv_aload_n hx hb dX11_back_17 rfl (lv_at hl 0 rfl) ?_
      refine va_get (D := E.1) (ci := 11) (v := .ref (ad 59)) (C := RX11) (T := TX11) (N := 17) hx hb hts iX11 hown hK hP 0 rfl rfl 8 (by decide) (hts _ wdF_RX11_66) (fun _ h9 => h9) rfl dX11_back_18 ?_
      refine lv_iload_n hx hb dX11_back_21 rfl (lv_at hl 1 rfl) ?_
      refine cQ_go (wr := [(h0, ob 11 [.ref (ad 0), .ref (ad 7), .ref (ad 28), .ref (ad 30), .ref (ad 76), .ref (ad 46), .ref (ad 55), .ref (ad 57), .ref (ad 59), .ref (ad 61), .ref (ad 80), .int 0, .int 0, .int 0, .int (-1), .int (-1), .int (-1)])]) (cM_runV (As := [.int (nI 0)]) (rest := []) F (p_X4_latest l E h0 ad gx gy gf v2 gt gh gc) yy_X4_latest yi_X4_latest wdM_RX11_196 hP hD hS hK hZ hA [1, 2] rfl rfl 1 4 rfl rfl rfl hl.1 rfl (Nat.le_of_ble_eq_true rfl) dX11_back_22 ⟨by decide, by decide⟩ ⟨by decide, by decide⟩) hP hD hS hA [1, 2] [0] rfl rfl rfl (by decide) (fun r_943 u_942 H locs hw_941 hP hD hS => ?_)
      try dsimp only at hw_941
      have hP : va_P E.1 vwCl [(h0, ob 11 [.ref (ad 0), .ref (ad 7), .ref (ad 28), .ref (ad 30), .ref (ad 76), .ref (ad 46), .ref (ad 55), .ref (ad 57), .ref (ad 59), .ref (ad 61), .ref (ad 80), .int 0, .int 0, .int 0, .int (-1), .int (-1), .int (-1)]), ((ad 59), ob 4 [.ref (ad 60), .int 0, .int 0]), ((ad 60), aQ E 201 (fun _ => none))] H := hP
      have hD : va_D A [(h0, ob 11 [.ref (ad 0), .ref (ad 7), .ref (ad 28), .ref (ad 30), .ref (ad 76), .ref (ad 46), .ref (ad 55), .ref (ad 57), .ref (ad 59), .ref (ad 61), .ref (ad 80), .int 0, .int 0, .int 0, .int (-1), .int (-1), .int (-1)]), ((ad 59), ob 4 [.ref (ad 60), .int 0, .int 0]), ((ad 60), aQ E 201 (fun _ => none))] := hD
      subst hw_941
      refine lv_astore_nN (lv' := [(2, .null), (0, .ref h0), (1, .int (nI 0))]) hx hb dX11_back_25 rfl hl (by decide) rfl (fun ls hl => ?_)
      refine lv_iload_n hx hb dX11_back_26 rfl (lv_at hl 2 rfl) ?_
      refine lv_if_le (tgt := 70) hx hb dX11_back_27 (by decide) (fun c_944 => ?_) (fun c_944 => absurd (by decide) c_944)
      refine lv_iconst (v := nI 1) hx hb dX11_back_70 (by decide) ?_
      exact cB_ret F hP hD hS hK (by decide) () (if_pos rfl).symm [] rfl rfl dX11_back_71 (by decide) (by decide)
    · refine lv_iconst (v := nI 0) hx hb dX11_back_15 (by decide) ?_
      exact cB_ret F hP hD hS hK (by decide) () (if_neg (fun e => c2 (by rw [e]; decide))).symm [] rfl rfl dX11_back_16 (by decide) (by decide)
theorem yy_X11_back : cY yX11_back cX11_back 3 (some .boolean) 1 := ⟨wdK_X11_back, wdZ_RX11, by decide +kernel⟩
theorem yi_X11_back : cYi yX11_back := ⟨wdN_X11_back, wdS_X11_back⟩
theorem dX12_savesFloor_0 : decode cX12_savesFloor 0 = .ok (.iconst 0, 1) := by decide +kernel
theorem dX12_savesFloor_1 : decode cX12_savesFloor 1 = .ok (.istore_n 1, 1) := by decide +kernel
theorem dX12_savesFloor_2 : decode cX12_savesFloor 2 = .ok (.iload_n 1, 1) := by decide +kernel
theorem dX12_savesFloor_3 : decode cX12_savesFloor 3 = .ok (.bipush 64, 2) := by decide +kernel
theorem dX12_savesFloor_5 : decode cX12_savesFloor 5 = .ok (.if_icmp .ge 68, 3) := by decide +kernel
theorem dX12_savesFloor_8 : decode cX12_savesFloor 8 = .ok (.aload_n 0, 1) := by decide +kernel
theorem dX12_savesFloor_9 : decode cX12_savesFloor 9 = .ok (.getfield 202, 3) := by decide +kernel
theorem dX12_savesFloor_12 : decode cX12_savesFloor 12 = .ok (.iload_n 1, 1) := by decide +kernel
theorem dX12_savesFloor_13 : decode cX12_savesFloor 13 = .ok (.aload_n 0, 1) := by decide +kernel
theorem dX12_savesFloor_14 : decode cX12_savesFloor 14 = .ok (.getfield 71, 3) := by decide +kernel
theorem dX12_savesFloor_17 : decode cX12_savesFloor 17 = .ok (.iload_n 1, 1) := by decide +kernel
theorem dX12_savesFloor_18 : decode cX12_savesFloor 18 = .ok (.iaload, 1) := by decide +kernel
theorem dX12_savesFloor_19 : decode cX12_savesFloor 19 = .ok (.iastore, 1) := by decide +kernel
theorem dX12_savesFloor_20 : decode cX12_savesFloor 20 = .ok (.aload_n 0, 1) := by decide +kernel
theorem dX12_savesFloor_21 : decode cX12_savesFloor 21 = .ok (.getfield 202, 3) := by decide +kernel
theorem dX12_savesFloor_24 : decode cX12_savesFloor 24 = .ok (.bipush 64, 2) := by decide +kernel
theorem dX12_savesFloor_26 : decode cX12_savesFloor 26 = .ok (.iload_n 1, 1) := by decide +kernel
theorem dX12_savesFloor_27 : decode cX12_savesFloor 27 = .ok (.iadd, 1) := by decide +kernel
theorem dX12_savesFloor_28 : decode cX12_savesFloor 28 = .ok (.aload_n 0, 1) := by decide +kernel
theorem dX12_savesFloor_29 : decode cX12_savesFloor 29 = .ok (.getfield 74, 3) := by decide +kernel
theorem dX12_savesFloor_32 : decode cX12_savesFloor 32 = .ok (.iload_n 1, 1) := by decide +kernel
theorem dX12_savesFloor_33 : decode cX12_savesFloor 33 = .ok (.iaload, 1) := by decide +kernel
theorem dX12_savesFloor_34 : decode cX12_savesFloor 34 = .ok (.iastore, 1) := by decide +kernel
theorem dX12_savesFloor_35 : decode cX12_savesFloor 35 = .ok (.aload_n 0, 1) := by decide +kernel
theorem dX12_savesFloor_36 : decode cX12_savesFloor 36 = .ok (.getfield 202, 3) := by decide +kernel
theorem dX12_savesFloor_39 : decode cX12_savesFloor 39 = .ok (.sipush 128, 3) := by decide +kernel
theorem dX12_savesFloor_42 : decode cX12_savesFloor 42 = .ok (.iload_n 1, 1) := by decide +kernel
theorem dX12_savesFloor_43 : decode cX12_savesFloor 43 = .ok (.iadd, 1) := by decide +kernel
theorem dX12_savesFloor_44 : decode cX12_savesFloor 44 = .ok (.aload_n 0, 1) := by decide +kernel
theorem dX12_savesFloor_45 : decode cX12_savesFloor 45 = .ok (.getfield 77, 3) := by decide +kernel
theorem dX12_savesFloor_48 : decode cX12_savesFloor 48 = .ok (.iload_n 1, 1) := by decide +kernel
theorem dX12_savesFloor_49 : decode cX12_savesFloor 49 = .ok (.iaload, 1) := by decide +kernel
theorem dX12_savesFloor_50 : decode cX12_savesFloor 50 = .ok (.iastore, 1) := by decide +kernel
theorem dX12_savesFloor_51 : decode cX12_savesFloor 51 = .ok (.aload_n 0, 1) := by decide +kernel
theorem dX12_savesFloor_52 : decode cX12_savesFloor 52 = .ok (.getfield 202, 3) := by decide +kernel
theorem dX12_savesFloor_55 : decode cX12_savesFloor 55 = .ok (.sipush 192, 3) := by decide +kernel
theorem dX12_savesFloor_58 : decode cX12_savesFloor 58 = .ok (.iload_n 1, 1) := by decide +kernel
theorem dX12_savesFloor_59 : decode cX12_savesFloor 59 = .ok (.iadd, 1) := by decide +kernel
theorem dX12_savesFloor_60 : decode cX12_savesFloor 60 = .ok (.aload_n 0, 1) := by decide +kernel
theorem dX12_savesFloor_61 : decode cX12_savesFloor 61 = .ok (.getfield 80, 3) := by decide +kernel
theorem dX12_savesFloor_64 : decode cX12_savesFloor 64 = .ok (.iload_n 1, 1) := by decide +kernel
theorem dX12_savesFloor_65 : decode cX12_savesFloor 65 = .ok (.iaload, 1) := by decide +kernel
theorem dX12_savesFloor_66 : decode cX12_savesFloor 66 = .ok (.iastore, 1) := by decide +kernel
theorem dX12_savesFloor_67 : decode cX12_savesFloor 67 = .ok (.iinc 1 1, 3) := by decide +kernel
theorem dX12_savesFloor_70 : decode cX12_savesFloor 70 = .ok (.goto (-68), 3) := by decide +kernel
theorem dX12_savesFloor_73 : decode cX12_savesFloor 73 = .ok (.return_, 1) := by decide +kernel
abbrev rm_c_X12_savesFloor : Room := { frames := 0, cells := 0, slots := 0, locals := 0 }
set_option maxHeartbeats 4000000 in
set_option maxRecDepth 100000 in
theorem c_X12_savesFloor (l : Launch) (E : cE) (h0 : Nat) (r : Nat → Nat) (g : Nat → Value) (mx : Nat → Int32) (my : Nat → Int32) (mw : Nat → Int32) (mt : Nat → Int32) (sf : Nat → Int32) (hR : mOK r g) : cM l E yX12_savesFloor cX12_savesFloor 2 none rm_c_X12_savesFloor [.ref h0] [(h0, ob 12 (mfs g)), ((r 38), aI E 64 mx), ((r 39), aI E 64 my), ((r 40), aI E 64 mw), ((r 41), aI E 64 mt), ((r 104), aI E 256 sf)] (qV E (fun (s2 : Nat → Int32) => True) (fun (s2 : Nat → Int32) => [(h0, ob 12 (mfs g)), ((r 38), aI E 64 mx), ((r 39), aI E 64 my), ((r 40), aI E 64 mw), ((r 41), aI E 64 mt), ((r 104), aI E 256 s2)])) := by
  refine cM_of (by decide) (Nat.le_of_ble_eq_true rfl) ?_
  intro p e s m below meth c ls A F hA hS hP hD hK hZ hl
  obtain ⟨hx, hb, hr, hml, hown, hts, hlk, hin⟩ := id F
  have hown : s.vm.findClass RX12 = some m.cls := hown
  have hl : lv_has ls 2 [(0, .ref h0)] := hl
  refine lv_iconst (v := nI 0) hx hb dX12_savesFloor_0 (by decide) ?_
  refine lv_istore_n (lv' := [(1, .int (nI 0)), (0, .ref h0)]) hx hb dX12_savesFloor_1 rfl hl (by decide) rfl (fun ls hl => ?_)
  have lp : ∀ (n_lp : Nat) (i : Nat) (s2 : Nat → Int32) (hn : 65 ≤ i + n_lp) (hi : i ≤ 64) (H : Heap) (locs : List Loc) (ls : Array Slot), va_P E.1 vwCl [(h0, ob 12 (mfs g)), ((r 38), aI E 64 mx), ((r 39), aI E 64 my), ((r 40), aI E 64 mw), ((r 41), aI E 64 mt), ((r 104), aI E 256 s2)] H → va_D A [(h0, ob 12 (mfs g)), ((r 38), aI E 64 mx), ((r 39), aI E 64 my), ((r 40), aI E 64 mw), ((r 41), aI E 64 mt), ((r 104), aI E 256 s2)] → va_S A s.heap H locs → lv_has ls 2 [(0, .ref h0), (1, .int (nI i))] → W p l e rm_c_X12_savesFloor s m ([.ref h0] : List Value).toArray below meth c H locs 0 0 (MQ below ((qV E (fun (s2 : Nat → Int32) => True) (fun (s2 : Nat → Int32) => [(h0, ob 12 (mfs g)), ((r 38), aI E 64 mx), ((r 39), aI E 64 my), ((r 40), aI E 64 mw), ((r 41), aI E 64 mt), ((r 104), aI E 256 s2)])) A) ([.ref h0] : List Value).toArray s (rm_c_X12_savesFloor).cells (rm_c_X12_savesFloor).slots A) (F0 m 2 ls []) := by
    intro n_lp
    induction n_lp with
    | zero =>
      intro i s2 hn hi
      exfalso; omega
    | succ n_lp ih_lp =>
      intro i s2 hn hi H locs ls hP hD hS hl
      refine lv_iload_n hx hb dX12_savesFloor_2 rfl (lv_at hl 1 rfl) ?_
      refine lv_bipush (v := nI 64) hx hb dX12_savesFloor_3 (by decide) ?_
      refine lv_icmp_ge (tgt := 73) hx hb dX12_savesFloor_5 (by decide) (fun c1 => ?_) (fun c1 => ?_)
      · exact cV_ret F hP hD hS hK s2 trivial [0, 1, 2, 3, 4, 5] rfl rfl dX12_savesFloor_73 (by decide) (by decide)
      · have c2 : i < 64 := Nat.lt_of_not_le (fun h => c1 (nI_le h (by omega)))
        refine lv_aload_n hx hb dX12_savesFloor_8 rfl (lv_at hl 0 rfl) ?_
        refine va_get (D := E.1) (ci := 12) (v := .ref (r 104)) (C := RX12) (T := TX12) (N := 116) hx hb hts iX12 hown hK hP 0 rfl rfl 104 (by decide) (hts _ wdF_RX12_202) (fun _ h9 => h9) ((mfs_get _ 104 (by decide)).trans (congrArg some (show (g) 104 = .ref (r 104) from (hR 104 rfl)))) dX12_savesFloor_9 ?_
        refine lv_iload_n hx hb dX12_savesFloor_12 rfl (lv_at hl 1 rfl) ?_
        refine lv_aload_n hx hb dX12_savesFloor_13 rfl (lv_at hl 0 rfl) ?_
        refine va_get (D := E.1) (ci := 12) (v := .ref (r 38)) (C := RX12) (T := TX12) (N := 116) hx hb hts iX12 hown hK hP 0 rfl rfl 38 (by decide) (hts _ wdF_RX12_71) (fun _ h9 => h9) ((mfs_get _ 38 (by decide)).trans (congrArg some (show (g) 38 = .ref (r 38) from (hR 38 rfl)))) dX12_savesFloor_14 ?_
        refine lv_iload_n hx hb dX12_savesFloor_17 rfl (lv_at hl 1 rfl) ?_
        refine va_iald hx hb hK hP 1 1 rfl rfl (vp_in_nI (by omega) (by decide)) dX12_savesFloor_18 ?_
        rw [nI_clamp (n := i) (by omega)]
        refine va_iast hx hb hK hP hD hS 5 1 rfl rfl (vp_in_nI (by omega) (by decide)) dX12_savesFloor_19 (fun H locs hP hD hS => ?_)
        have hP : va_P E.1 vwCl [(h0, ob 12 (mfs g)), ((r 38), aI E 64 mx), ((r 39), aI E 64 my), ((r 40), aI E 64 mw), ((r 41), aI E 64 mt), ((r 104), aI E 256 (upd s2 (nI i).toNatClampNeg (mx i)))] H := hP
        have hD : va_D A [(h0, ob 12 (mfs g)), ((r 38), aI E 64 mx), ((r 39), aI E 64 my), ((r 40), aI E 64 mw), ((r 41), aI E 64 mt), ((r 104), aI E 256 (upd s2 (nI i).toNatClampNeg (mx i)))] := hD
        rw [nI_clamp (n := i) (by omega)] at hP hD
        refine lv_aload_n hx hb dX12_savesFloor_20 rfl (lv_at hl 0 rfl) ?_
        refine va_get (D := E.1) (ci := 12) (v := .ref (r 104)) (C := RX12) (T := TX12) (N := 116) hx hb hts iX12 hown hK hP 0 rfl rfl 104 (by decide) (hts _ wdF_RX12_202) (fun _ h9 => h9) ((mfs_get _ 104 (by decide)).trans (congrArg some (show (g) 104 = .ref (r 104) from (hR 104 rfl)))) dX12_savesFloor_21 ?_
        refine lv_bipush (v := nI 64) hx hb dX12_savesFloor_24 (by decide) ?_
        refine lv_iload_n hx hb dX12_savesFloor_26 rfl (lv_at hl 1 rfl) ?_
        refine lv_iadd hx hb dX12_savesFloor_27 ?_
        rw [nI_add 64 i]
        refine lv_aload_n hx hb dX12_savesFloor_28 rfl (lv_at hl 0 rfl) ?_
        refine va_get (D := E.1) (ci := 12) (v := .ref (r 39)) (C := RX12) (T := TX12) (N := 116) hx hb hts iX12 hown hK hP 0 rfl rfl 39 (by decide) (hts _ wdF_RX12_74) (fun _ h9 => h9) ((mfs_get _ 39 (by decide)).trans (congrArg some (show (g) 39 = .ref (r 39) from (hR 39 rfl)))) dX12_savesFloor_29 ?_
        refine lv_iload_n hx hb dX12_savesFloor_32 rfl (lv_at hl 1 rfl) ?_
        refine va_iald hx hb hK hP 2 1 rfl rfl (vp_in_nI (by omega) (by decide)) dX12_savesFloor_33 ?_
        rw [nI_clamp (n := i) (by omega)]
        refine va_iast hx hb hK hP hD hS 5 1 rfl rfl (vp_in_nI (by omega) (by decide)) dX12_savesFloor_34 (fun H locs hP hD hS => ?_)
        have hP : va_P E.1 vwCl [(h0, ob 12 (mfs g)), ((r 38), aI E 64 mx), ((r 39), aI E 64 my), ((r 40), aI E 64 mw), ((r 41), aI E 64 mt), ((r 104), aI E 256 (upd (upd s2 i (mx i)) (nI (64 + i)).toNatClampNeg (my i)))] H := hP
        have hD : va_D A [(h0, ob 12 (mfs g)), ((r 38), aI E 64 mx), ((r 39), aI E 64 my), ((r 40), aI E 64 mw), ((r 41), aI E 64 mt), ((r 104), aI E 256 (upd (upd s2 i (mx i)) (nI (64 + i)).toNatClampNeg (my i)))] := hD
        rw [nI_clamp (n := (64 + i)) (by omega)] at hP hD
        refine lv_aload_n hx hb dX12_savesFloor_35 rfl (lv_at hl 0 rfl) ?_
        refine va_get (D := E.1) (ci := 12) (v := .ref (r 104)) (C := RX12) (T := TX12) (N := 116) hx hb hts iX12 hown hK hP 0 rfl rfl 104 (by decide) (hts _ wdF_RX12_202) (fun _ h9 => h9) ((mfs_get _ 104 (by decide)).trans (congrArg some (show (g) 104 = .ref (r 104) from (hR 104 rfl)))) dX12_savesFloor_36 ?_
        refine lv_sipush (v := nI 128) hx hb dX12_savesFloor_39 (by decide) ?_
        refine lv_iload_n hx hb dX12_savesFloor_42 rfl (lv_at hl 1 rfl) ?_
        refine lv_iadd hx hb dX12_savesFloor_43 ?_
        rw [nI_add 128 i]
        refine lv_aload_n hx hb dX12_savesFloor_44 rfl (lv_at hl 0 rfl) ?_
        refine va_get (D := E.1) (ci := 12) (v := .ref (r 40)) (C := RX12) (T := TX12) (N := 116) hx hb hts iX12 hown hK hP 0 rfl rfl 40 (by decide) (hts _ wdF_RX12_77) (fun _ h9 => h9) ((mfs_get _ 40 (by decide)).trans (congrArg some (show (g) 40 = .ref (r 40) from (hR 40 rfl)))) dX12_savesFloor_45 ?_
        refine lv_iload_n hx hb dX12_savesFloor_48 rfl (lv_at hl 1 rfl) ?_
        refine va_iald hx hb hK hP 3 1 rfl rfl (vp_in_nI (by omega) (by decide)) dX12_savesFloor_49 ?_
        rw [nI_clamp (n := i) (by omega)]
        refine va_iast hx hb hK hP hD hS 5 1 rfl rfl (vp_in_nI (by omega) (by decide)) dX12_savesFloor_50 (fun H locs hP hD hS => ?_)
        have hP : va_P E.1 vwCl [(h0, ob 12 (mfs g)), ((r 38), aI E 64 mx), ((r 39), aI E 64 my), ((r 40), aI E 64 mw), ((r 41), aI E 64 mt), ((r 104), aI E 256 (upd (upd (upd s2 i (mx i)) (64 + i) (my i)) (nI (128 + i)).toNatClampNeg (mw i)))] H := hP
        have hD : va_D A [(h0, ob 12 (mfs g)), ((r 38), aI E 64 mx), ((r 39), aI E 64 my), ((r 40), aI E 64 mw), ((r 41), aI E 64 mt), ((r 104), aI E 256 (upd (upd (upd s2 i (mx i)) (64 + i) (my i)) (nI (128 + i)).toNatClampNeg (mw i)))] := hD
        rw [nI_clamp (n := (128 + i)) (by omega)] at hP hD
        refine lv_aload_n hx hb dX12_savesFloor_51 rfl (lv_at hl 0 rfl) ?_
        refine va_get (D := E.1) (ci := 12) (v := .ref (r 104)) (C := RX12) (T := TX12) (N := 116) hx hb hts iX12 hown hK hP 0 rfl rfl 104 (by decide) (hts _ wdF_RX12_202) (fun _ h9 => h9) ((mfs_get _ 104 (by decide)).trans (congrArg some (show (g) 104 = .ref (r 104) from (hR 104 rfl)))) dX12_savesFloor_52 ?_
        refine lv_sipush (v := nI 192) hx hb dX12_savesFloor_55 (by decide) ?_
        refine lv_iload_n hx hb dX12_savesFloor_58 rfl (lv_at hl 1 rfl) ?_
        refine lv_iadd hx hb dX12_savesFloor_59 ?_
        rw [nI_add 192 i]
        refine lv_aload_n hx hb dX12_savesFloor_60 rfl (lv_at hl 0 rfl) ?_
        refine va_get (D := E.1) (ci := 12) (v := .ref (r 41)) (C := RX12) (T := TX12) (N := 116) hx hb hts iX12 hown hK hP 0 rfl rfl 41 (by decide) (hts _ wdF_RX12_80) (fun _ h9 => h9) ((mfs_get _ 41 (by decide)).trans (congrArg some (show (g) 41 = .ref (r 41) from (hR 41 rfl)))) dX12_savesFloor_61 ?_
        refine lv_iload_n hx hb dX12_savesFloor_64 rfl (lv_at hl 1 rfl) ?_
        refine va_iald hx hb hK hP 4 1 rfl rfl (vp_in_nI (by omega) (by decide)) dX12_savesFloor_65 ?_
        rw [nI_clamp (n := i) (by omega)]
        refine va_iast hx hb hK hP hD hS 5 1 rfl rfl (vp_in_nI (by omega) (by decide)) dX12_savesFloor_66 (fun H locs hP hD hS => ?_)
        have hP : va_P E.1 vwCl [(h0, ob 12 (mfs g)), ((r 38), aI E 64 mx), ((r 39), aI E 64 my), ((r 40), aI E 64 mw), ((r 41), aI E 64 mt), ((r 104), aI E 256 (upd (upd (upd (upd s2 i (mx i)) (64 + i) (my i)) (128 + i) (mw i)) (nI (192 + i)).toNatClampNeg (mt i)))] H := hP
        have hD : va_D A [(h0, ob 12 (mfs g)), ((r 38), aI E 64 mx), ((r 39), aI E 64 my), ((r 40), aI E 64 mw), ((r 41), aI E 64 mt), ((r 104), aI E 256 (upd (upd (upd (upd s2 i (mx i)) (64 + i) (my i)) (128 + i) (mw i)) (nI (192 + i)).toNatClampNeg (mt i)))] := hD
        rw [nI_clamp (n := (192 + i)) (by omega)] at hP hD
        refine lv_iinc (v := nI (i + 1)) (lv' := [(1, .int (nI (i + 1))), (0, .ref h0)]) hx hb dX12_savesFloor_67 hl (k := 1) rfl (nI_1 i) (by decide) rfl (fun ls hl => ?_)
        refine lv_goto (tgt := 2) hx hb dX12_savesFloor_70 (by decide) ?_
        exact ih_lp (i + 1) (upd (upd (upd (upd s2 i (mx i)) (64 + i) (my i)) (128 + i) (mw i)) (192 + i) (mt i)) (by omega) (by omega) _ _ _ hP hD hS (lv_sub hl [1, 0] rfl)
  exact lp 65 0 sf (by omega) (by omega) _ _ _ hP hD hS (lv_sub hl [1, 0] rfl)
theorem yy_X12_savesFloor : cY yX12_savesFloor cX12_savesFloor 2 none 0 := ⟨wdK_X12_savesFloor, wdZ_RX12, by decide +kernel⟩
theorem yi_X12_savesFloor : cYi yX12_savesFloor := ⟨wdN_X12_savesFloor, wdS_X12_savesFloor⟩
theorem dX12_givesFloor_0 : decode cX12_givesFloor 0 = .ok (.iconst 0, 1) := by decide +kernel
theorem dX12_givesFloor_1 : decode cX12_givesFloor 1 = .ok (.istore_n 1, 1) := by decide +kernel
theorem dX12_givesFloor_2 : decode cX12_givesFloor 2 = .ok (.iload_n 1, 1) := by decide +kernel
theorem dX12_givesFloor_3 : decode cX12_givesFloor 3 = .ok (.bipush 64, 2) := by decide +kernel
theorem dX12_givesFloor_5 : decode cX12_givesFloor 5 = .ok (.if_icmp .ge 68, 3) := by decide +kernel
theorem dX12_givesFloor_8 : decode cX12_givesFloor 8 = .ok (.aload_n 0, 1) := by decide +kernel
theorem dX12_givesFloor_9 : decode cX12_givesFloor 9 = .ok (.getfield 71, 3) := by decide +kernel
theorem dX12_givesFloor_12 : decode cX12_givesFloor 12 = .ok (.iload_n 1, 1) := by decide +kernel
theorem dX12_givesFloor_13 : decode cX12_givesFloor 13 = .ok (.aload_n 0, 1) := by decide +kernel
theorem dX12_givesFloor_14 : decode cX12_givesFloor 14 = .ok (.getfield 202, 3) := by decide +kernel
theorem dX12_givesFloor_17 : decode cX12_givesFloor 17 = .ok (.iload_n 1, 1) := by decide +kernel
theorem dX12_givesFloor_18 : decode cX12_givesFloor 18 = .ok (.iaload, 1) := by decide +kernel
theorem dX12_givesFloor_19 : decode cX12_givesFloor 19 = .ok (.iastore, 1) := by decide +kernel
theorem dX12_givesFloor_20 : decode cX12_givesFloor 20 = .ok (.aload_n 0, 1) := by decide +kernel
theorem dX12_givesFloor_21 : decode cX12_givesFloor 21 = .ok (.getfield 74, 3) := by decide +kernel
theorem dX12_givesFloor_24 : decode cX12_givesFloor 24 = .ok (.iload_n 1, 1) := by decide +kernel
theorem dX12_givesFloor_25 : decode cX12_givesFloor 25 = .ok (.aload_n 0, 1) := by decide +kernel
theorem dX12_givesFloor_26 : decode cX12_givesFloor 26 = .ok (.getfield 202, 3) := by decide +kernel
theorem dX12_givesFloor_29 : decode cX12_givesFloor 29 = .ok (.bipush 64, 2) := by decide +kernel
theorem dX12_givesFloor_31 : decode cX12_givesFloor 31 = .ok (.iload_n 1, 1) := by decide +kernel
theorem dX12_givesFloor_32 : decode cX12_givesFloor 32 = .ok (.iadd, 1) := by decide +kernel
theorem dX12_givesFloor_33 : decode cX12_givesFloor 33 = .ok (.iaload, 1) := by decide +kernel
theorem dX12_givesFloor_34 : decode cX12_givesFloor 34 = .ok (.iastore, 1) := by decide +kernel
theorem dX12_givesFloor_35 : decode cX12_givesFloor 35 = .ok (.aload_n 0, 1) := by decide +kernel
theorem dX12_givesFloor_36 : decode cX12_givesFloor 36 = .ok (.getfield 77, 3) := by decide +kernel
theorem dX12_givesFloor_39 : decode cX12_givesFloor 39 = .ok (.iload_n 1, 1) := by decide +kernel
theorem dX12_givesFloor_40 : decode cX12_givesFloor 40 = .ok (.aload_n 0, 1) := by decide +kernel
theorem dX12_givesFloor_41 : decode cX12_givesFloor 41 = .ok (.getfield 202, 3) := by decide +kernel
theorem dX12_givesFloor_44 : decode cX12_givesFloor 44 = .ok (.sipush 128, 3) := by decide +kernel
theorem dX12_givesFloor_47 : decode cX12_givesFloor 47 = .ok (.iload_n 1, 1) := by decide +kernel
theorem dX12_givesFloor_48 : decode cX12_givesFloor 48 = .ok (.iadd, 1) := by decide +kernel
theorem dX12_givesFloor_49 : decode cX12_givesFloor 49 = .ok (.iaload, 1) := by decide +kernel
theorem dX12_givesFloor_50 : decode cX12_givesFloor 50 = .ok (.iastore, 1) := by decide +kernel
theorem dX12_givesFloor_51 : decode cX12_givesFloor 51 = .ok (.aload_n 0, 1) := by decide +kernel
theorem dX12_givesFloor_52 : decode cX12_givesFloor 52 = .ok (.getfield 80, 3) := by decide +kernel
theorem dX12_givesFloor_55 : decode cX12_givesFloor 55 = .ok (.iload_n 1, 1) := by decide +kernel
theorem dX12_givesFloor_56 : decode cX12_givesFloor 56 = .ok (.aload_n 0, 1) := by decide +kernel
theorem dX12_givesFloor_57 : decode cX12_givesFloor 57 = .ok (.getfield 202, 3) := by decide +kernel
theorem dX12_givesFloor_60 : decode cX12_givesFloor 60 = .ok (.sipush 192, 3) := by decide +kernel
theorem dX12_givesFloor_63 : decode cX12_givesFloor 63 = .ok (.iload_n 1, 1) := by decide +kernel
theorem dX12_givesFloor_64 : decode cX12_givesFloor 64 = .ok (.iadd, 1) := by decide +kernel
theorem dX12_givesFloor_65 : decode cX12_givesFloor 65 = .ok (.iaload, 1) := by decide +kernel
theorem dX12_givesFloor_66 : decode cX12_givesFloor 66 = .ok (.iastore, 1) := by decide +kernel
theorem dX12_givesFloor_67 : decode cX12_givesFloor 67 = .ok (.iinc 1 1, 3) := by decide +kernel
theorem dX12_givesFloor_70 : decode cX12_givesFloor 70 = .ok (.goto (-68), 3) := by decide +kernel
theorem dX12_givesFloor_73 : decode cX12_givesFloor 73 = .ok (.return_, 1) := by decide +kernel
abbrev rm_c_X12_givesFloor : Room := { frames := 0, cells := 0, slots := 0, locals := 0 }
set_option maxHeartbeats 4000000 in
set_option maxRecDepth 100000 in
theorem c_X12_givesFloor (l : Launch) (E : cE) (h0 : Nat) (r : Nat → Nat) (g : Nat → Value) (mx : Nat → Int32) (my : Nat → Int32) (mw : Nat → Int32) (mt : Nat → Int32) (sf : Nat → Int32) (hR : mOK r g) : cM l E yX12_givesFloor cX12_givesFloor 2 none rm_c_X12_givesFloor [.ref h0] [(h0, ob 12 (mfs g)), ((r 38), aI E 64 mx), ((r 39), aI E 64 my), ((r 40), aI E 64 mw), ((r 41), aI E 64 mt), ((r 104), aI E 256 sf)] (qV E (fun (u : (Nat → Int32) × (Nat → Int32) × (Nat → Int32) × (Nat → Int32)) => match u with | (x2, y2, w2, t2) => True) (fun (u : (Nat → Int32) × (Nat → Int32) × (Nat → Int32) × (Nat → Int32)) => match u with | (x2, y2, w2, t2) => [(h0, ob 12 (mfs g)), ((r 38), aI E 64 x2), ((r 39), aI E 64 y2), ((r 40), aI E 64 w2), ((r 41), aI E 64 t2), ((r 104), aI E 256 sf)])) := by
  refine cM_of (by decide) (Nat.le_of_ble_eq_true rfl) ?_
  intro p e s m below meth c ls A F hA hS hP hD hK hZ hl
  obtain ⟨hx, hb, hr, hml, hown, hts, hlk, hin⟩ := id F
  have hown : s.vm.findClass RX12 = some m.cls := hown
  have hl : lv_has ls 2 [(0, .ref h0)] := hl
  refine lv_iconst (v := nI 0) hx hb dX12_givesFloor_0 (by decide) ?_
  refine lv_istore_n (lv' := [(1, .int (nI 0)), (0, .ref h0)]) hx hb dX12_givesFloor_1 rfl hl (by decide) rfl (fun ls hl => ?_)
  have lp : ∀ (n_lp : Nat) (i : Nat) (x2 : Nat → Int32) (y2 : Nat → Int32) (w2 : Nat → Int32) (t2 : Nat → Int32) (hn : 65 ≤ i + n_lp) (hi : i ≤ 64) (H : Heap) (locs : List Loc) (ls : Array Slot), va_P E.1 vwCl [(h0, ob 12 (mfs g)), ((r 38), aI E 64 x2), ((r 39), aI E 64 y2), ((r 40), aI E 64 w2), ((r 41), aI E 64 t2), ((r 104), aI E 256 sf)] H → va_D A [(h0, ob 12 (mfs g)), ((r 38), aI E 64 x2), ((r 39), aI E 64 y2), ((r 40), aI E 64 w2), ((r 41), aI E 64 t2), ((r 104), aI E 256 sf)] → va_S A s.heap H locs → lv_has ls 2 [(0, .ref h0), (1, .int (nI i))] → W p l e rm_c_X12_givesFloor s m ([.ref h0] : List Value).toArray below meth c H locs 0 0 (MQ below ((qV E (fun (u : (Nat → Int32) × (Nat → Int32) × (Nat → Int32) × (Nat → Int32)) => match u with | (x2, y2, w2, t2) => True) (fun (u : (Nat → Int32) × (Nat → Int32) × (Nat → Int32) × (Nat → Int32)) => match u with | (x2, y2, w2, t2) => [(h0, ob 12 (mfs g)), ((r 38), aI E 64 x2), ((r 39), aI E 64 y2), ((r 40), aI E 64 w2), ((r 41), aI E 64 t2), ((r 104), aI E 256 sf)])) A) ([.ref h0] : List Value).toArray s (rm_c_X12_givesFloor).cells (rm_c_X12_givesFloor).slots A) (F0 m 2 ls []) := by
    intro n_lp
    induction n_lp with
    | zero =>
      intro i x2 y2 w2 t2 hn hi
      exfalso; omega
    | succ n_lp ih_lp =>
      intro i x2 y2 w2 t2 hn hi H locs ls hP hD hS hl
      refine lv_iload_n hx hb dX12_givesFloor_2 rfl (lv_at hl 1 rfl) ?_
      refine lv_bipush (v := nI 64) hx hb dX12_givesFloor_3 (by decide) ?_
      refine lv_icmp_ge (tgt := 73) hx hb dX12_givesFloor_5 (by decide) (fun c1 => ?_) (fun c1 => ?_)
      · exact cV_ret F hP hD hS hK (x2, y2, w2, t2) trivial [0, 1, 2, 3, 4, 5] rfl rfl dX12_givesFloor_73 (by decide) (by decide)
      · have c2 : i < 64 := Nat.lt_of_not_le (fun h => c1 (nI_le h (by omega)))
        refine lv_aload_n hx hb dX12_givesFloor_8 rfl (lv_at hl 0 rfl) ?_
        refine va_get (D := E.1) (ci := 12) (v := .ref (r 38)) (C := RX12) (T := TX12) (N := 116) hx hb hts iX12 hown hK hP 0 rfl rfl 38 (by decide) (hts _ wdF_RX12_71) (fun _ h9 => h9) ((mfs_get _ 38 (by decide)).trans (congrArg some (show (g) 38 = .ref (r 38) from (hR 38 rfl)))) dX12_givesFloor_9 ?_
        refine lv_iload_n hx hb dX12_givesFloor_12 rfl (lv_at hl 1 rfl) ?_
        refine lv_aload_n hx hb dX12_givesFloor_13 rfl (lv_at hl 0 rfl) ?_
        refine va_get (D := E.1) (ci := 12) (v := .ref (r 104)) (C := RX12) (T := TX12) (N := 116) hx hb hts iX12 hown hK hP 0 rfl rfl 104 (by decide) (hts _ wdF_RX12_202) (fun _ h9 => h9) ((mfs_get _ 104 (by decide)).trans (congrArg some (show (g) 104 = .ref (r 104) from (hR 104 rfl)))) dX12_givesFloor_14 ?_
        refine lv_iload_n hx hb dX12_givesFloor_17 rfl (lv_at hl 1 rfl) ?_
        refine va_iald hx hb hK hP 5 1 rfl rfl (vp_in_nI (by omega) (by decide)) dX12_givesFloor_18 ?_
        rw [nI_clamp (n := i) (by omega)]
        refine va_iast hx hb hK hP hD hS 1 1 rfl rfl (vp_in_nI (by omega) (by decide)) dX12_givesFloor_19 (fun H locs hP hD hS => ?_)
        have hP : va_P E.1 vwCl [(h0, ob 12 (mfs g)), ((r 38), aI E 64 (upd x2 (nI i).toNatClampNeg (sf i))), ((r 39), aI E 64 y2), ((r 40), aI E 64 w2), ((r 41), aI E 64 t2), ((r 104), aI E 256 sf)] H := hP
        have hD : va_D A [(h0, ob 12 (mfs g)), ((r 38), aI E 64 (upd x2 (nI i).toNatClampNeg (sf i))), ((r 39), aI E 64 y2), ((r 40), aI E 64 w2), ((r 41), aI E 64 t2), ((r 104), aI E 256 sf)] := hD
        rw [nI_clamp (n := i) (by omega)] at hP hD
        refine lv_aload_n hx hb dX12_givesFloor_20 rfl (lv_at hl 0 rfl) ?_
        refine va_get (D := E.1) (ci := 12) (v := .ref (r 39)) (C := RX12) (T := TX12) (N := 116) hx hb hts iX12 hown hK hP 0 rfl rfl 39 (by decide) (hts _ wdF_RX12_74) (fun _ h9 => h9) ((mfs_get _ 39 (by decide)).trans (congrArg some (show (g) 39 = .ref (r 39) from (hR 39 rfl)))) dX12_givesFloor_21 ?_
        refine lv_iload_n hx hb dX12_givesFloor_24 rfl (lv_at hl 1 rfl) ?_
        refine lv_aload_n hx hb dX12_givesFloor_25 rfl (lv_at hl 0 rfl) ?_
        refine va_get (D := E.1) (ci := 12) (v := .ref (r 104)) (C := RX12) (T := TX12) (N := 116) hx hb hts iX12 hown hK hP 0 rfl rfl 104 (by decide) (hts _ wdF_RX12_202) (fun _ h9 => h9) ((mfs_get _ 104 (by decide)).trans (congrArg some (show (g) 104 = .ref (r 104) from (hR 104 rfl)))) dX12_givesFloor_26 ?_
        refine lv_bipush (v := nI 64) hx hb dX12_givesFloor_29 (by decide) ?_
        refine lv_iload_n hx hb dX12_givesFloor_31 rfl (lv_at hl 1 rfl) ?_
        refine lv_iadd hx hb dX12_givesFloor_32 ?_
        rw [nI_add 64 i]
        refine va_iald hx hb hK hP 5 1 rfl rfl (vp_in_nI (by omega) (by decide)) dX12_givesFloor_33 ?_
        rw [nI_clamp (n := (64 + i)) (by omega)]
        refine va_iast hx hb hK hP hD hS 2 1 rfl rfl (vp_in_nI (by omega) (by decide)) dX12_givesFloor_34 (fun H locs hP hD hS => ?_)
        have hP : va_P E.1 vwCl [(h0, ob 12 (mfs g)), ((r 38), aI E 64 (upd x2 i (sf i))), ((r 39), aI E 64 (upd y2 (nI i).toNatClampNeg (sf (64 + i)))), ((r 40), aI E 64 w2), ((r 41), aI E 64 t2), ((r 104), aI E 256 sf)] H := hP
        have hD : va_D A [(h0, ob 12 (mfs g)), ((r 38), aI E 64 (upd x2 i (sf i))), ((r 39), aI E 64 (upd y2 (nI i).toNatClampNeg (sf (64 + i)))), ((r 40), aI E 64 w2), ((r 41), aI E 64 t2), ((r 104), aI E 256 sf)] := hD
        rw [nI_clamp (n := i) (by omega)] at hP hD
        refine lv_aload_n hx hb dX12_givesFloor_35 rfl (lv_at hl 0 rfl) ?_
        refine va_get (D := E.1) (ci := 12) (v := .ref (r 40)) (C := RX12) (T := TX12) (N := 116) hx hb hts iX12 hown hK hP 0 rfl rfl 40 (by decide) (hts _ wdF_RX12_77) (fun _ h9 => h9) ((mfs_get _ 40 (by decide)).trans (congrArg some (show (g) 40 = .ref (r 40) from (hR 40 rfl)))) dX12_givesFloor_36 ?_
        refine lv_iload_n hx hb dX12_givesFloor_39 rfl (lv_at hl 1 rfl) ?_
        refine lv_aload_n hx hb dX12_givesFloor_40 rfl (lv_at hl 0 rfl) ?_
        refine va_get (D := E.1) (ci := 12) (v := .ref (r 104)) (C := RX12) (T := TX12) (N := 116) hx hb hts iX12 hown hK hP 0 rfl rfl 104 (by decide) (hts _ wdF_RX12_202) (fun _ h9 => h9) ((mfs_get _ 104 (by decide)).trans (congrArg some (show (g) 104 = .ref (r 104) from (hR 104 rfl)))) dX12_givesFloor_41 ?_
        refine lv_sipush (v := nI 128) hx hb dX12_givesFloor_44 (by decide) ?_
        refine lv_iload_n hx hb dX12_givesFloor_47 rfl (lv_at hl 1 rfl) ?_
        refine lv_iadd hx hb dX12_givesFloor_48 ?_
        rw [nI_add 128 i]
        refine va_iald hx hb hK hP 5 1 rfl rfl (vp_in_nI (by omega) (by decide)) dX12_givesFloor_49 ?_
        rw [nI_clamp (n := (128 + i)) (by omega)]
        refine va_iast hx hb hK hP hD hS 3 1 rfl rfl (vp_in_nI (by omega) (by decide)) dX12_givesFloor_50 (fun H locs hP hD hS => ?_)
        have hP : va_P E.1 vwCl [(h0, ob 12 (mfs g)), ((r 38), aI E 64 (upd x2 i (sf i))), ((r 39), aI E 64 (upd y2 i (sf (64 + i)))), ((r 40), aI E 64 (upd w2 (nI i).toNatClampNeg (sf (128 + i)))), ((r 41), aI E 64 t2), ((r 104), aI E 256 sf)] H := hP
        have hD : va_D A [(h0, ob 12 (mfs g)), ((r 38), aI E 64 (upd x2 i (sf i))), ((r 39), aI E 64 (upd y2 i (sf (64 + i)))), ((r 40), aI E 64 (upd w2 (nI i).toNatClampNeg (sf (128 + i)))), ((r 41), aI E 64 t2), ((r 104), aI E 256 sf)] := hD
        rw [nI_clamp (n := i) (by omega)] at hP hD
        refine lv_aload_n hx hb dX12_givesFloor_51 rfl (lv_at hl 0 rfl) ?_
        refine va_get (D := E.1) (ci := 12) (v := .ref (r 41)) (C := RX12) (T := TX12) (N := 116) hx hb hts iX12 hown hK hP 0 rfl rfl 41 (by decide) (hts _ wdF_RX12_80) (fun _ h9 => h9) ((mfs_get _ 41 (by decide)).trans (congrArg some (show (g) 41 = .ref (r 41) from (hR 41 rfl)))) dX12_givesFloor_52 ?_
        refine lv_iload_n hx hb dX12_givesFloor_55 rfl (lv_at hl 1 rfl) ?_
        refine lv_aload_n hx hb dX12_givesFloor_56 rfl (lv_at hl 0 rfl) ?_
        refine va_get (D := E.1) (ci := 12) (v := .ref (r 104)) (C := RX12) (T := TX12) (N := 116) hx hb hts iX12 hown hK hP 0 rfl rfl 104 (by decide) (hts _ wdF_RX12_202) (fun _ h9 => h9) ((mfs_get _ 104 (by decide)).trans (congrArg some (show (g) 104 = .ref (r 104) from (hR 104 rfl)))) dX12_givesFloor_57 ?_
        refine lv_sipush (v := nI 192) hx hb dX12_givesFloor_60 (by decide) ?_
        refine lv_iload_n hx hb dX12_givesFloor_63 rfl (lv_at hl 1 rfl) ?_
        refine lv_iadd hx hb dX12_givesFloor_64 ?_
        rw [nI_add 192 i]
        refine va_iald hx hb hK hP 5 1 rfl rfl (vp_in_nI (by omega) (by decide)) dX12_givesFloor_65 ?_
        rw [nI_clamp (n := (192 + i)) (by omega)]
        refine va_iast hx hb hK hP hD hS 4 1 rfl rfl (vp_in_nI (by omega) (by decide)) dX12_givesFloor_66 (fun H locs hP hD hS => ?_)
        have hP : va_P E.1 vwCl [(h0, ob 12 (mfs g)), ((r 38), aI E 64 (upd x2 i (sf i))), ((r 39), aI E 64 (upd y2 i (sf (64 + i)))), ((r 40), aI E 64 (upd w2 i (sf (128 + i)))), ((r 41), aI E 64 (upd t2 (nI i).toNatClampNeg (sf (192 + i)))), ((r 104), aI E 256 sf)] H := hP
        have hD : va_D A [(h0, ob 12 (mfs g)), ((r 38), aI E 64 (upd x2 i (sf i))), ((r 39), aI E 64 (upd y2 i (sf (64 + i)))), ((r 40), aI E 64 (upd w2 i (sf (128 + i)))), ((r 41), aI E 64 (upd t2 (nI i).toNatClampNeg (sf (192 + i)))), ((r 104), aI E 256 sf)] := hD
        rw [nI_clamp (n := i) (by omega)] at hP hD
        refine lv_iinc (v := nI (i + 1)) (lv' := [(1, .int (nI (i + 1))), (0, .ref h0)]) hx hb dX12_givesFloor_67 hl (k := 1) rfl (nI_1 i) (by decide) rfl (fun ls hl => ?_)
        refine lv_goto (tgt := 2) hx hb dX12_givesFloor_70 (by decide) ?_
        exact ih_lp (i + 1) (upd x2 i (sf i)) (upd y2 i (sf (64 + i))) (upd w2 i (sf (128 + i))) (upd t2 i (sf (192 + i))) (by omega) (by omega) _ _ _ hP hD hS (lv_sub hl [1, 0] rfl)
  exact lp 65 0 mx my mw mt (by omega) (by omega) _ _ _ hP hD hS (lv_sub hl [1, 0] rfl)
theorem yy_X12_givesFloor : cY yX12_givesFloor cX12_givesFloor 2 none 0 := ⟨wdK_X12_givesFloor, wdZ_RX12, by decide +kernel⟩
theorem yi_X12_givesFloor : cYi yX12_givesFloor := ⟨wdN_X12_givesFloor, wdS_X12_givesFloor⟩
theorem dX12_feed_0 : decode cX12_feed 0 = .ok (.aload_n 0, 1) := by decide +kernel
theorem dX12_feed_1 : decode cX12_feed 1 = .ok (.getfield 258, 3) := by decide +kernel
theorem dX12_feed_4 : decode cX12_feed 4 = .ok (.bipush 20, 2) := by decide +kernel
theorem dX12_feed_6 : decode cX12_feed 6 = .ok (.iadd, 1) := by decide +kernel
theorem dX12_feed_7 : decode cX12_feed 7 = .ok (.sipush 4096, 3) := by decide +kernel
theorem dX12_feed_10 : decode cX12_feed 10 = .ok (.if_icmp .le 5, 3) := by decide +kernel
theorem dX12_feed_13 : decode cX12_feed 13 = .ok (.iconst 0, 1) := by decide +kernel
theorem dX12_feed_14 : decode cX12_feed 14 = .ok (.ireturn, 1) := by decide +kernel
theorem dX12_feed_15 : decode cX12_feed 15 = .ok (.iconst 0, 1) := by decide +kernel
theorem dX12_feed_16 : decode cX12_feed 16 = .ok (.istore 6, 2) := by decide +kernel
theorem dX12_feed_18 : decode cX12_feed 18 = .ok (.iload 6, 2) := by decide +kernel
theorem dX12_feed_20 : decode cX12_feed 20 = .ok (.bipush 20, 2) := by decide +kernel
theorem dX12_feed_22 : decode cX12_feed 22 = .ok (.if_icmp .ge 90, 3) := by decide +kernel
theorem dX12_feed_25 : decode cX12_feed 25 = .ok (.iload 6, 2) := by decide +kernel
theorem dX12_feed_27 : decode cX12_feed 27 = .ok (.iconst 4, 1) := by decide +kernel
theorem dX12_feed_28 : decode cX12_feed 28 = .ok (.if_icmp .ge 7, 3) := by decide +kernel
theorem dX12_feed_31 : decode cX12_feed 31 = .ok (.iload_n 1, 1) := by decide +kernel
theorem dX12_feed_32 : decode cX12_feed 32 = .ok (.goto 39, 3) := by decide +kernel
theorem dX12_feed_35 : decode cX12_feed 35 = .ok (.iload 6, 2) := by decide +kernel
theorem dX12_feed_37 : decode cX12_feed 37 = .ok (.bipush 8, 2) := by decide +kernel
theorem dX12_feed_39 : decode cX12_feed 39 = .ok (.if_icmp .ge 7, 3) := by decide +kernel
theorem dX12_feed_42 : decode cX12_feed 42 = .ok (.iload_n 2, 1) := by decide +kernel
theorem dX12_feed_43 : decode cX12_feed 43 = .ok (.goto 28, 3) := by decide +kernel
theorem dX12_feed_46 : decode cX12_feed 46 = .ok (.iload 6, 2) := by decide +kernel
theorem dX12_feed_48 : decode cX12_feed 48 = .ok (.bipush 12, 2) := by decide +kernel
theorem dX12_feed_50 : decode cX12_feed 50 = .ok (.if_icmp .ge 7, 3) := by decide +kernel
theorem dX12_feed_53 : decode cX12_feed 53 = .ok (.iload_n 3, 1) := by decide +kernel
theorem dX12_feed_54 : decode cX12_feed 54 = .ok (.goto 17, 3) := by decide +kernel
theorem dX12_feed_57 : decode cX12_feed 57 = .ok (.iload 6, 2) := by decide +kernel
theorem dX12_feed_59 : decode cX12_feed 59 = .ok (.bipush 16, 2) := by decide +kernel
theorem dX12_feed_61 : decode cX12_feed 61 = .ok (.if_icmp .ge 8, 3) := by decide +kernel
theorem dX12_feed_64 : decode cX12_feed 64 = .ok (.iload 4, 2) := by decide +kernel
theorem dX12_feed_66 : decode cX12_feed 66 = .ok (.goto 5, 3) := by decide +kernel
theorem dX12_feed_69 : decode cX12_feed 69 = .ok (.iload 5, 2) := by decide +kernel
theorem dX12_feed_71 : decode cX12_feed 71 = .ok (.istore 7, 2) := by decide +kernel
theorem dX12_feed_73 : decode cX12_feed 73 = .ok (.aload_n 0, 1) := by decide +kernel
theorem dX12_feed_74 : decode cX12_feed 74 = .ok (.getfield 7, 3) := by decide +kernel
theorem dX12_feed_77 : decode cX12_feed 77 = .ok (.aload_n 0, 1) := by decide +kernel
theorem dX12_feed_78 : decode cX12_feed 78 = .ok (.getfield 258, 3) := by decide +kernel
theorem dX12_feed_81 : decode cX12_feed 81 = .ok (.iload 7, 2) := by decide +kernel
theorem dX12_feed_83 : decode cX12_feed 83 = .ok (.bipush 24, 2) := by decide +kernel
theorem dX12_feed_85 : decode cX12_feed 85 = .ok (.bipush 8, 2) := by decide +kernel
theorem dX12_feed_87 : decode cX12_feed 87 = .ok (.iload 6, 2) := by decide +kernel
theorem dX12_feed_89 : decode cX12_feed 89 = .ok (.iconst 3, 1) := by decide +kernel
theorem dX12_feed_90 : decode cX12_feed 90 = .ok (.iand, 1) := by decide +kernel
theorem dX12_feed_91 : decode cX12_feed 91 = .ok (.imul, 1) := by decide +kernel
theorem dX12_feed_92 : decode cX12_feed 92 = .ok (.isub, 1) := by decide +kernel
theorem dX12_feed_93 : decode cX12_feed 93 = .ok (.ishr, 1) := by decide +kernel
theorem dX12_feed_94 : decode cX12_feed 94 = .ok (.i2b, 1) := by decide +kernel
theorem dX12_feed_95 : decode cX12_feed 95 = .ok (.bastore, 1) := by decide +kernel
theorem dX12_feed_96 : decode cX12_feed 96 = .ok (.aload_n 0, 1) := by decide +kernel
theorem dX12_feed_97 : decode cX12_feed 97 = .ok (.dup, 1) := by decide +kernel
theorem dX12_feed_98 : decode cX12_feed 98 = .ok (.getfield 258, 3) := by decide +kernel
theorem dX12_feed_101 : decode cX12_feed 101 = .ok (.iconst 1, 1) := by decide +kernel
theorem dX12_feed_102 : decode cX12_feed 102 = .ok (.iadd, 1) := by decide +kernel
theorem dX12_feed_103 : decode cX12_feed 103 = .ok (.putfield 258, 3) := by decide +kernel
theorem dX12_feed_106 : decode cX12_feed 106 = .ok (.iinc 6 1, 3) := by decide +kernel
theorem dX12_feed_109 : decode cX12_feed 109 = .ok (.goto (-91), 3) := by decide +kernel
theorem dX12_feed_112 : decode cX12_feed 112 = .ok (.iconst 1, 1) := by decide +kernel
theorem dX12_feed_113 : decode cX12_feed 113 = .ok (.ireturn, 1) := by decide +kernel
abbrev rm_p_X12_feed : Room := { frames := 0, cells := 0, slots := 0, locals := 0 }
set_option maxHeartbeats 4000000 in
set_option maxRecDepth 100000 in
theorem p_X12_feed (l : Launch) (E : cE) (h0 : Nat) (r : Nat → Nat) (g : Nat → Value) (gx : Nat → Int32) (gy : Nat → Int32) (gw : Nat → Int32) (gt : Nat → Int32) (fx : Nat → Int32) (fy : Nat → Int32) (fw : Nat → Int32) (bx : Nat → Int32) (by_ : Nat → Int32) (bw : Nat → Int32) (a : Int32) (b : Int32) (c9 : Int32) (d : Int32) (e9 : Int32) (hR : mOK r g) (hI : ∀ k, k < 116 → mRef k = false → g k = mI k) (hm1 : flo (stC 0) (2 * 4) gx gy gw) (hm2 : ∀ d, d < 2 * 4 → gt d = 0) (hm3 : ∀ d, d < 2 * 4 → fx d = gx d ∧ fy d = gy d ∧ fw d = gw d) (hm4 : ∀ d, d < 2 * 4 → bx d = gx d ∧ by_ d = gy d ∧ bw d = gw d) : cM l E yX12_feed cX12_feed 8 (some .boolean) rm_p_X12_feed [.ref h0, .int a, .int b, .int c9, .int d, .int e9] [(h0, ob 12 (mfs g)), ((r 0), aB E 4096 (fun _ => 0))] (qI E (fun (r : Int32) (_u : Unit) => r = nI 1) (fun _ => [])) := by
  refine cM_of (by decide) (Nat.le_of_ble_eq_true rfl) ?_
  intro p e s m below meth c ls A F hA hS hP hD hK hZ hl
  obtain ⟨hx, hb, hr, hml, hown, hts, hlk, hin⟩ := id F
  have hown : s.vm.findClass RX12 = some m.cls := hown
  have hl : lv_has ls 8 [(0, .ref h0), (1, .int a), (2, .int b), (3, .int c9), (4, .int d), (5, .int e9)] := hl
  refine lv_aload_n hx hb dX12_feed_0 rfl (lv_at hl 0 rfl) ?_
  refine va_get (D := E.1) (ci := 12) (v := .int (nI 0)) (C := RX12) (T := TX12) (N := 116) hx hb hts iX12 hown hK hP 0 rfl rfl 1 (by decide) (hts _ wdF_RX12_258) (fun _ h9 => h9) ((mfs_get _ 1 (by decide)).trans (congrArg some (show (g) 1 = .int (nI 0) from (hI 1 (by decide) rfl)))) dX12_feed_1 ?_
  refine lv_bipush (v := nI 20) hx hb dX12_feed_4 (by decide) ?_
  refine lv_iadd hx hb dX12_feed_6 ?_
  rw [show ((nI 0) + (nI 20) : Int32) = nI 20 from by decide]
  refine lv_sipush (v := nI 4096) hx hb dX12_feed_7 (by decide) ?_
  refine lv_icmp_le (tgt := 15) hx hb dX12_feed_10 (by decide) (fun c_945 => ?_) (fun c_945 => absurd (by decide) c_945)
  refine lv_iconst (v := nI 0) hx hb dX12_feed_15 (by decide) ?_
  refine lv_istore (lv' := [(6, .int (nI 0)), (0, .ref h0), (1, .int a), (2, .int b), (3, .int c9), (4, .int d), (5, .int e9)]) hx hb dX12_feed_16 hl (by decide) rfl (fun ls hl => ?_)
  refine lv_iload hx hb dX12_feed_18 (lv_at hl 0 rfl) ?_
  refine lv_bipush (v := nI 20) hx hb dX12_feed_20 (by decide) ?_
  refine lv_icmp_ge (tgt := 112) hx hb dX12_feed_22 (by decide) (fun c_946 => absurd c_946 (by decide)) (fun c_946 => ?_)
  refine lv_iload hx hb dX12_feed_25 (lv_at hl 0 rfl) ?_
  refine lv_iconst (v := nI 4) hx hb dX12_feed_27 (by decide) ?_
  refine lv_icmp_ge (tgt := 35) hx hb dX12_feed_28 (by decide) (fun c_947 => absurd c_947 (by decide)) (fun c_947 => ?_)
  refine lv_iload_n hx hb dX12_feed_31 rfl (lv_at hl 2 rfl) ?_
  refine lv_goto (tgt := 71) hx hb dX12_feed_32 (by decide) ?_
  refine lv_istore (lv' := [(7, .int a), (6, .int (nI 0)), (0, .ref h0), (1, .int a), (2, .int b), (3, .int c9), (4, .int d), (5, .int e9)]) hx hb dX12_feed_71 hl (by decide) rfl (fun ls hl => ?_)
  refine lv_aload_n hx hb dX12_feed_73 rfl (lv_at hl 2 rfl) ?_
  refine va_get (D := E.1) (ci := 12) (v := .ref (r 0)) (C := RX12) (T := TX12) (N := 116) hx hb hts iX12 hown hK hP 0 rfl rfl 0 (by decide) (hts _ wdF_RX12_7) (fun _ h9 => h9) ((mfs_get _ 0 (by decide)).trans (congrArg some (show (g) 0 = .ref (r 0) from (hR 0 rfl)))) dX12_feed_74 ?_
  refine lv_aload_n hx hb dX12_feed_77 rfl (lv_at hl 2 rfl) ?_
  refine va_get (D := E.1) (ci := 12) (v := .int (nI 0)) (C := RX12) (T := TX12) (N := 116) hx hb hts iX12 hown hK hP 0 rfl rfl 1 (by decide) (hts _ wdF_RX12_258) (fun _ h9 => h9) ((mfs_get _ 1 (by decide)).trans (congrArg some (show (g) 1 = .int (nI 0) from (hI 1 (by decide) rfl)))) dX12_feed_78 ?_
  refine lv_iload hx hb dX12_feed_81 (lv_at hl 0 rfl) ?_
  refine lv_bipush (v := nI 24) hx hb dX12_feed_83 (by decide) ?_
  refine lv_bipush (v := nI 8) hx hb dX12_feed_85 (by decide) ?_
  refine lv_iload hx hb dX12_feed_87 (lv_at hl 1 rfl) ?_
  refine lv_iconst (v := nI 3) hx hb dX12_feed_89 (by decide) ?_
  refine lv_iand hx hb dX12_feed_90 ?_
  rw [show ((nI 0) &&& (nI 3) : Int32) = nI 0 from by decide]
  refine lv_imul hx hb dX12_feed_91 ?_
  rw [show ((nI 8) * (nI 0) : Int32) = nI 0 from by decide]
  refine lv_isub hx hb dX12_feed_92 ?_
  rw [show ((nI 24) - (nI 0) : Int32) = nI 24 from by decide]
  refine lv_ishr hx hb dX12_feed_93 ?_
  refine lv_i2b hx hb dX12_feed_94 rfl ?_
  refine va_bast hx hb hK hP hD hS 1 0 rfl rfl (vp_in_nI (by decide) (by decide)) dX12_feed_95 (fun H locs hP hD hS => ?_)
  have hP : va_P E.1 vwCl [(h0, ob 12 (mfs g)), ((r 0), aB E 4096 (upd (fun _ => 0) (nI 0).toNatClampNeg (vp_nar .byte ((a >>> ((nI 24) &&& 31)).toInt8.toInt32))))] H := hP
  have hD : va_D A [(h0, ob 12 (mfs g)), ((r 0), aB E 4096 (upd (fun _ => 0) (nI 0).toNatClampNeg (vp_nar .byte ((a >>> ((nI 24) &&& 31)).toInt8.toInt32))))] := hD
  rw [nI_clamp (n := 0) (by decide)] at hP hD
  refine lv_aload_n hx hb dX12_feed_96 rfl (lv_at hl 2 rfl) ?_
  refine lv_dup hx hb dX12_feed_97 rfl ?_
  refine va_get (D := E.1) (ci := 12) (v := .int (nI 0)) (C := RX12) (T := TX12) (N := 116) hx hb hts iX12 hown hK hP 0 rfl rfl 1 (by decide) (hts _ wdF_RX12_258) (fun _ h9 => h9) ((mfs_get _ 1 (by decide)).trans (congrArg some (show (g) 1 = .int (nI 0) from (hI 1 (by decide) rfl)))) dX12_feed_98 ?_
  refine lv_iconst (v := nI 1) hx hb dX12_feed_101 (by decide) ?_
  refine lv_iadd hx hb dX12_feed_102 ?_
  rw [show ((nI 0) + (nI 1) : Int32) = nI 1 from by decide]
  refine va_put (D := E.1) (ci := 12) (v := .int (nI 1)) (ty := .int) (C := RX12) (T := TX12) (N := 116) hx hb hts iX12 tyX12 tyX12_ok nmX12 hown hK hP hD hS 0 rfl rfl 1 (by decide) (hts _ wdF_RX12_258) (fun _ h9 => h9) rfl (by decide +kernel) rfl rfl (by rw [mfs_len]; decide) dX12_feed_103 (fun H locs hP hD hS => ?_)
  have hP : va_P E.1 vwCl [(h0, ob 12 ((mfs g).set 1 (.int (nI 1)))), ((r 0), aB E 4096 (upd (fun _ => 0) 0 (vp_nar .byte ((a >>> ((nI 24) &&& 31)).toInt8.toInt32))))] H := hP
  have hD : va_D A [(h0, ob 12 ((mfs g).set 1 (.int (nI 1)))), ((r 0), aB E 4096 (upd (fun _ => 0) 0 (vp_nar .byte ((a >>> ((nI 24) &&& 31)).toInt8.toInt32))))] := hD
  rw [mfs_set _ 1 _ (by decide)] at hP hD
  refine lv_iinc (v := nI 1) (lv' := [(6, .int (nI 1)), (7, .int a), (0, .ref h0), (1, .int a), (2, .int b), (3, .int c9), (4, .int d), (5, .int e9)]) hx hb dX12_feed_106 hl (k := 1) rfl (by decide) (by decide) rfl (fun ls hl => ?_)
  refine lv_goto (tgt := 18) hx hb dX12_feed_109 (by decide) ?_
  refine lv_iload hx hb dX12_feed_18 (lv_at hl 0 rfl) ?_
  refine lv_bipush (v := nI 20) hx hb dX12_feed_20 (by decide) ?_
  refine lv_icmp_ge (tgt := 112) hx hb dX12_feed_22 (by decide) (fun c_948 => absurd c_948 (by decide)) (fun c_948 => ?_)
  refine lv_iload hx hb dX12_feed_25 (lv_at hl 0 rfl) ?_
  refine lv_iconst (v := nI 4) hx hb dX12_feed_27 (by decide) ?_
  refine lv_icmp_ge (tgt := 35) hx hb dX12_feed_28 (by decide) (fun c_949 => absurd c_949 (by decide)) (fun c_949 => ?_)
  refine lv_iload_n hx hb dX12_feed_31 rfl (lv_at hl 3 rfl) ?_
  refine lv_goto (tgt := 71) hx hb dX12_feed_32 (by decide) ?_
  refine lv_istore (lv' := [(7, .int a), (6, .int (nI 1)), (0, .ref h0), (1, .int a), (2, .int b), (3, .int c9), (4, .int d), (5, .int e9)]) hx hb dX12_feed_71 hl (by decide) rfl (fun ls hl => ?_)
  refine lv_aload_n hx hb dX12_feed_73 rfl (lv_at hl 2 rfl) ?_
  refine va_get (D := E.1) (ci := 12) (v := .ref (r 0)) (C := RX12) (T := TX12) (N := 116) hx hb hts iX12 hown hK hP 0 rfl rfl 0 (by decide) (hts _ wdF_RX12_7) (fun _ h9 => h9) ((mfs_get _ 0 (by decide)).trans (congrArg some (show (updG g 1 (.int (nI 1))) 0 = .ref (r 0) from (hR 0 rfl)))) dX12_feed_74 ?_
  refine lv_aload_n hx hb dX12_feed_77 rfl (lv_at hl 2 rfl) ?_
  refine va_get (D := E.1) (ci := 12) (v := .int (nI 1)) (C := RX12) (T := TX12) (N := 116) hx hb hts iX12 hown hK hP 0 rfl rfl 1 (by decide) (hts _ wdF_RX12_258) (fun _ h9 => h9) ((mfs_get _ 1 (by decide)).trans (congrArg some (show (updG g 1 (.int (nI 1))) 1 = .int (nI 1) from rfl))) dX12_feed_78 ?_
  refine lv_iload hx hb dX12_feed_81 (lv_at hl 0 rfl) ?_
  refine lv_bipush (v := nI 24) hx hb dX12_feed_83 (by decide) ?_
  refine lv_bipush (v := nI 8) hx hb dX12_feed_85 (by decide) ?_
  refine lv_iload hx hb dX12_feed_87 (lv_at hl 1 rfl) ?_
  refine lv_iconst (v := nI 3) hx hb dX12_feed_89 (by decide) ?_
  refine lv_iand hx hb dX12_feed_90 ?_
  rw [show ((nI 1) &&& (nI 3) : Int32) = nI 1 from by decide]
  refine lv_imul hx hb dX12_feed_91 ?_
  rw [show ((nI 8) * (nI 1) : Int32) = nI 8 from by decide]
  refine lv_isub hx hb dX12_feed_92 ?_
  rw [show ((nI 24) - (nI 8) : Int32) = nI 16 from by decide]
  refine lv_ishr hx hb dX12_feed_93 ?_
  refine lv_i2b hx hb dX12_feed_94 rfl ?_
  refine va_bast hx hb hK hP hD hS 1 0 rfl rfl (vp_in_nI (by decide) (by decide)) dX12_feed_95 (fun H locs hP hD hS => ?_)
  have hP : va_P E.1 vwCl [(h0, ob 12 (mfs (updG g 1 (.int (nI 1))))), ((r 0), aB E 4096 (upd (upd (fun _ => 0) 0 (vp_nar .byte ((a >>> ((nI 24) &&& 31)).toInt8.toInt32))) (nI 1).toNatClampNeg (vp_nar .byte ((a >>> ((nI 16) &&& 31)).toInt8.toInt32))))] H := hP
  have hD : va_D A [(h0, ob 12 (mfs (updG g 1 (.int (nI 1))))), ((r 0), aB E 4096 (upd (upd (fun _ => 0) 0 (vp_nar .byte ((a >>> ((nI 24) &&& 31)).toInt8.toInt32))) (nI 1).toNatClampNeg (vp_nar .byte ((a >>> ((nI 16) &&& 31)).toInt8.toInt32))))] := hD
  rw [nI_clamp (n := 1) (by decide)] at hP hD
  refine lv_aload_n hx hb dX12_feed_96 rfl (lv_at hl 2 rfl) ?_
  refine lv_dup hx hb dX12_feed_97 rfl ?_
  refine va_get (D := E.1) (ci := 12) (v := .int (nI 1)) (C := RX12) (T := TX12) (N := 116) hx hb hts iX12 hown hK hP 0 rfl rfl 1 (by decide) (hts _ wdF_RX12_258) (fun _ h9 => h9) ((mfs_get _ 1 (by decide)).trans (congrArg some (show (updG g 1 (.int (nI 1))) 1 = .int (nI 1) from rfl))) dX12_feed_98 ?_
  refine lv_iconst (v := nI 1) hx hb dX12_feed_101 (by decide) ?_
  refine lv_iadd hx hb dX12_feed_102 ?_
  rw [show ((nI 1) + (nI 1) : Int32) = nI 2 from by decide]
  refine va_put (D := E.1) (ci := 12) (v := .int (nI 2)) (ty := .int) (C := RX12) (T := TX12) (N := 116) hx hb hts iX12 tyX12 tyX12_ok nmX12 hown hK hP hD hS 0 rfl rfl 1 (by decide) (hts _ wdF_RX12_258) (fun _ h9 => h9) rfl (by decide +kernel) rfl rfl (by rw [mfs_len]; decide) dX12_feed_103 (fun H locs hP hD hS => ?_)
  have hP : va_P E.1 vwCl [(h0, ob 12 ((mfs (updG g 1 (.int (nI 1)))).set 1 (.int (nI 2)))), ((r 0), aB E 4096 (upd (upd (fun _ => 0) 0 (vp_nar .byte ((a >>> ((nI 24) &&& 31)).toInt8.toInt32))) 1 (vp_nar .byte ((a >>> ((nI 16) &&& 31)).toInt8.toInt32))))] H := hP
  have hD : va_D A [(h0, ob 12 ((mfs (updG g 1 (.int (nI 1)))).set 1 (.int (nI 2)))), ((r 0), aB E 4096 (upd (upd (fun _ => 0) 0 (vp_nar .byte ((a >>> ((nI 24) &&& 31)).toInt8.toInt32))) 1 (vp_nar .byte ((a >>> ((nI 16) &&& 31)).toInt8.toInt32))))] := hD
  rw [mfs_set _ 1 _ (by decide)] at hP hD
  refine lv_iinc (v := nI 2) (lv' := [(6, .int (nI 2)), (7, .int a), (0, .ref h0), (1, .int a), (2, .int b), (3, .int c9), (4, .int d), (5, .int e9)]) hx hb dX12_feed_106 hl (k := 1) rfl (by decide) (by decide) rfl (fun ls hl => ?_)
  refine lv_goto (tgt := 18) hx hb dX12_feed_109 (by decide) ?_
  refine lv_iload hx hb dX12_feed_18 (lv_at hl 0 rfl) ?_
  refine lv_bipush (v := nI 20) hx hb dX12_feed_20 (by decide) ?_
  refine lv_icmp_ge (tgt := 112) hx hb dX12_feed_22 (by decide) (fun c_950 => absurd c_950 (by decide)) (fun c_950 => ?_)
  refine lv_iload hx hb dX12_feed_25 (lv_at hl 0 rfl) ?_
  refine lv_iconst (v := nI 4) hx hb dX12_feed_27 (by decide) ?_
  refine lv_icmp_ge (tgt := 35) hx hb dX12_feed_28 (by decide) (fun c_951 => absurd c_951 (by decide)) (fun c_951 => ?_)
  refine lv_iload_n hx hb dX12_feed_31 rfl (lv_at hl 3 rfl) ?_
  refine lv_goto (tgt := 71) hx hb dX12_feed_32 (by decide) ?_
  refine lv_istore (lv' := [(7, .int a), (6, .int (nI 2)), (0, .ref h0), (1, .int a), (2, .int b), (3, .int c9), (4, .int d), (5, .int e9)]) hx hb dX12_feed_71 hl (by decide) rfl (fun ls hl => ?_)
  refine lv_aload_n hx hb dX12_feed_73 rfl (lv_at hl 2 rfl) ?_
  refine va_get (D := E.1) (ci := 12) (v := .ref (r 0)) (C := RX12) (T := TX12) (N := 116) hx hb hts iX12 hown hK hP 0 rfl rfl 0 (by decide) (hts _ wdF_RX12_7) (fun _ h9 => h9) ((mfs_get _ 0 (by decide)).trans (congrArg some (show (updG (updG g 1 (.int (nI 1))) 1 (.int (nI 2))) 0 = .ref (r 0) from (hR 0 rfl)))) dX12_feed_74 ?_
  refine lv_aload_n hx hb dX12_feed_77 rfl (lv_at hl 2 rfl) ?_
  refine va_get (D := E.1) (ci := 12) (v := .int (nI 2)) (C := RX12) (T := TX12) (N := 116) hx hb hts iX12 hown hK hP 0 rfl rfl 1 (by decide) (hts _ wdF_RX12_258) (fun _ h9 => h9) ((mfs_get _ 1 (by decide)).trans (congrArg some (show (updG (updG g 1 (.int (nI 1))) 1 (.int (nI 2))) 1 = .int (nI 2) from rfl))) dX12_feed_78 ?_
  refine lv_iload hx hb dX12_feed_81 (lv_at hl 0 rfl) ?_
  refine lv_bipush (v := nI 24) hx hb dX12_feed_83 (by decide) ?_
  refine lv_bipush (v := nI 8) hx hb dX12_feed_85 (by decide) ?_
  refine lv_iload hx hb dX12_feed_87 (lv_at hl 1 rfl) ?_
  refine lv_iconst (v := nI 3) hx hb dX12_feed_89 (by decide) ?_
  refine lv_iand hx hb dX12_feed_90 ?_
  rw [show ((nI 2) &&& (nI 3) : Int32) = nI 2 from by decide]
  refine lv_imul hx hb dX12_feed_91 ?_
  rw [show ((nI 8) * (nI 2) : Int32) = nI 16 from by decide]
  refine lv_isub hx hb dX12_feed_92 ?_
  rw [show ((nI 24) - (nI 16) : Int32) = nI 8 from by decide]
  refine lv_ishr hx hb dX12_feed_93 ?_
  refine lv_i2b hx hb dX12_feed_94 rfl ?_
  refine va_bast hx hb hK hP hD hS 1 0 rfl rfl (vp_in_nI (by decide) (by decide)) dX12_feed_95 (fun H locs hP hD hS => ?_)
  have hP : va_P E.1 vwCl [(h0, ob 12 (mfs (updG (updG g 1 (.int (nI 1))) 1 (.int (nI 2))))), ((r 0), aB E 4096 (upd (upd (upd (fun _ => 0) 0 (vp_nar .byte ((a >>> ((nI 24) &&& 31)).toInt8.toInt32))) 1 (vp_nar .byte ((a >>> ((nI 16) &&& 31)).toInt8.toInt32))) (nI 2).toNatClampNeg (vp_nar .byte ((a >>> ((nI 8) &&& 31)).toInt8.toInt32))))] H := hP
  have hD : va_D A [(h0, ob 12 (mfs (updG (updG g 1 (.int (nI 1))) 1 (.int (nI 2))))), ((r 0), aB E 4096 (upd (upd (upd (fun _ => 0) 0 (vp_nar .byte ((a >>> ((nI 24) &&& 31)).toInt8.toInt32))) 1 (vp_nar .byte ((a >>> ((nI 16) &&& 31)).toInt8.toInt32))) (nI 2).toNatClampNeg (vp_nar .byte ((a >>> ((nI 8) &&& 31)).toInt8.toInt32))))] := hD
  rw [nI_clamp (n := 2) (by decide)] at hP hD
  refine lv_aload_n hx hb dX12_feed_96 rfl (lv_at hl 2 rfl) ?_
  refine lv_dup hx hb dX12_feed_97 rfl ?_
  refine va_get (D := E.1) (ci := 12) (v := .int (nI 2)) (C := RX12) (T := TX12) (N := 116) hx hb hts iX12 hown hK hP 0 rfl rfl 1 (by decide) (hts _ wdF_RX12_258) (fun _ h9 => h9) ((mfs_get _ 1 (by decide)).trans (congrArg some (show (updG (updG g 1 (.int (nI 1))) 1 (.int (nI 2))) 1 = .int (nI 2) from rfl))) dX12_feed_98 ?_
  refine lv_iconst (v := nI 1) hx hb dX12_feed_101 (by decide) ?_
  refine lv_iadd hx hb dX12_feed_102 ?_
  rw [show ((nI 2) + (nI 1) : Int32) = nI 3 from by decide]
  refine va_put (D := E.1) (ci := 12) (v := .int (nI 3)) (ty := .int) (C := RX12) (T := TX12) (N := 116) hx hb hts iX12 tyX12 tyX12_ok nmX12 hown hK hP hD hS 0 rfl rfl 1 (by decide) (hts _ wdF_RX12_258) (fun _ h9 => h9) rfl (by decide +kernel) rfl rfl (by rw [mfs_len]; decide) dX12_feed_103 (fun H locs hP hD hS => ?_)
  have hP : va_P E.1 vwCl [(h0, ob 12 ((mfs (updG (updG g 1 (.int (nI 1))) 1 (.int (nI 2)))).set 1 (.int (nI 3)))), ((r 0), aB E 4096 (upd (upd (upd (fun _ => 0) 0 (vp_nar .byte ((a >>> ((nI 24) &&& 31)).toInt8.toInt32))) 1 (vp_nar .byte ((a >>> ((nI 16) &&& 31)).toInt8.toInt32))) 2 (vp_nar .byte ((a >>> ((nI 8) &&& 31)).toInt8.toInt32))))] H := hP
  have hD : va_D A [(h0, ob 12 ((mfs (updG (updG g 1 (.int (nI 1))) 1 (.int (nI 2)))).set 1 (.int (nI 3)))), ((r 0), aB E 4096 (upd (upd (upd (fun _ => 0) 0 (vp_nar .byte ((a >>> ((nI 24) &&& 31)).toInt8.toInt32))) 1 (vp_nar .byte ((a >>> ((nI 16) &&& 31)).toInt8.toInt32))) 2 (vp_nar .byte ((a >>> ((nI 8) &&& 31)).toInt8.toInt32))))] := hD
  rw [mfs_set _ 1 _ (by decide)] at hP hD
  refine lv_iinc (v := nI 3) (lv' := [(6, .int (nI 3)), (7, .int a), (0, .ref h0), (1, .int a), (2, .int b), (3, .int c9), (4, .int d), (5, .int e9)]) hx hb dX12_feed_106 hl (k := 1) rfl (by decide) (by decide) rfl (fun ls hl => ?_)
  refine lv_goto (tgt := 18) hx hb dX12_feed_109 (by decide) ?_
  refine lv_iload hx hb dX12_feed_18 (lv_at hl 0 rfl) ?_
  refine lv_bipush (v := nI 20) hx hb dX12_feed_20 (by decide) ?_
  refine lv_icmp_ge (tgt := 112) hx hb dX12_feed_22 (by decide) (fun c_952 => absurd c_952 (by decide)) (fun c_952 => ?_)
  refine lv_iload hx hb dX12_feed_25 (lv_at hl 0 rfl) ?_
  refine lv_iconst (v := nI 4) hx hb dX12_feed_27 (by decide) ?_
  refine lv_icmp_ge (tgt := 35) hx hb dX12_feed_28 (by decide) (fun c_953 => absurd c_953 (by decide)) (fun c_953 => ?_)
  refine lv_iload_n hx hb dX12_feed_31 rfl (lv_at hl 3 rfl) ?_
  refine lv_goto (tgt := 71) hx hb dX12_feed_32 (by decide) ?_
  refine lv_istore (lv' := [(7, .int a), (6, .int (nI 3)), (0, .ref h0), (1, .int a), (2, .int b), (3, .int c9), (4, .int d), (5, .int e9)]) hx hb dX12_feed_71 hl (by decide) rfl (fun ls hl => ?_)
  refine lv_aload_n hx hb dX12_feed_73 rfl (lv_at hl 2 rfl) ?_
  refine va_get (D := E.1) (ci := 12) (v := .ref (r 0)) (C := RX12) (T := TX12) (N := 116) hx hb hts iX12 hown hK hP 0 rfl rfl 0 (by decide) (hts _ wdF_RX12_7) (fun _ h9 => h9) ((mfs_get _ 0 (by decide)).trans (congrArg some (show (updG (updG (updG g 1 (.int (nI 1))) 1 (.int (nI 2))) 1 (.int (nI 3))) 0 = .ref (r 0) from (hR 0 rfl)))) dX12_feed_74 ?_
  refine lv_aload_n hx hb dX12_feed_77 rfl (lv_at hl 2 rfl) ?_
  refine va_get (D := E.1) (ci := 12) (v := .int (nI 3)) (C := RX12) (T := TX12) (N := 116) hx hb hts iX12 hown hK hP 0 rfl rfl 1 (by decide) (hts _ wdF_RX12_258) (fun _ h9 => h9) ((mfs_get _ 1 (by decide)).trans (congrArg some (show (updG (updG (updG g 1 (.int (nI 1))) 1 (.int (nI 2))) 1 (.int (nI 3))) 1 = .int (nI 3) from rfl))) dX12_feed_78 ?_
  refine lv_iload hx hb dX12_feed_81 (lv_at hl 0 rfl) ?_
  refine lv_bipush (v := nI 24) hx hb dX12_feed_83 (by decide) ?_
  refine lv_bipush (v := nI 8) hx hb dX12_feed_85 (by decide) ?_
  refine lv_iload hx hb dX12_feed_87 (lv_at hl 1 rfl) ?_
  refine lv_iconst (v := nI 3) hx hb dX12_feed_89 (by decide) ?_
  refine lv_iand hx hb dX12_feed_90 ?_
  rw [show ((nI 3) &&& (nI 3) : Int32) = nI 3 from by decide]
  refine lv_imul hx hb dX12_feed_91 ?_
  rw [show ((nI 8) * (nI 3) : Int32) = nI 24 from by decide]
  refine lv_isub hx hb dX12_feed_92 ?_
  rw [show ((nI 24) - (nI 24) : Int32) = nI 0 from by decide]
  refine lv_ishr hx hb dX12_feed_93 ?_
  refine lv_i2b hx hb dX12_feed_94 rfl ?_
  refine va_bast hx hb hK hP hD hS 1 0 rfl rfl (vp_in_nI (by decide) (by decide)) dX12_feed_95 (fun H locs hP hD hS => ?_)
  have hP : va_P E.1 vwCl [(h0, ob 12 (mfs (updG (updG (updG g 1 (.int (nI 1))) 1 (.int (nI 2))) 1 (.int (nI 3))))), ((r 0), aB E 4096 (upd (upd (upd (upd (fun _ => 0) 0 (vp_nar .byte ((a >>> ((nI 24) &&& 31)).toInt8.toInt32))) 1 (vp_nar .byte ((a >>> ((nI 16) &&& 31)).toInt8.toInt32))) 2 (vp_nar .byte ((a >>> ((nI 8) &&& 31)).toInt8.toInt32))) (nI 3).toNatClampNeg (vp_nar .byte ((a >>> ((nI 0) &&& 31)).toInt8.toInt32))))] H := hP
  have hD : va_D A [(h0, ob 12 (mfs (updG (updG (updG g 1 (.int (nI 1))) 1 (.int (nI 2))) 1 (.int (nI 3))))), ((r 0), aB E 4096 (upd (upd (upd (upd (fun _ => 0) 0 (vp_nar .byte ((a >>> ((nI 24) &&& 31)).toInt8.toInt32))) 1 (vp_nar .byte ((a >>> ((nI 16) &&& 31)).toInt8.toInt32))) 2 (vp_nar .byte ((a >>> ((nI 8) &&& 31)).toInt8.toInt32))) (nI 3).toNatClampNeg (vp_nar .byte ((a >>> ((nI 0) &&& 31)).toInt8.toInt32))))] := hD
  rw [nI_clamp (n := 3) (by decide)] at hP hD
  refine lv_aload_n hx hb dX12_feed_96 rfl (lv_at hl 2 rfl) ?_
  refine lv_dup hx hb dX12_feed_97 rfl ?_
  refine va_get (D := E.1) (ci := 12) (v := .int (nI 3)) (C := RX12) (T := TX12) (N := 116) hx hb hts iX12 hown hK hP 0 rfl rfl 1 (by decide) (hts _ wdF_RX12_258) (fun _ h9 => h9) ((mfs_get _ 1 (by decide)).trans (congrArg some (show (updG (updG (updG g 1 (.int (nI 1))) 1 (.int (nI 2))) 1 (.int (nI 3))) 1 = .int (nI 3) from rfl))) dX12_feed_98 ?_
  refine lv_iconst (v := nI 1) hx hb dX12_feed_101 (by decide) ?_
  refine lv_iadd hx hb dX12_feed_102 ?_
  rw [show ((nI 3) + (nI 1) : Int32) = nI 4 from by decide]
  refine va_put (D := E.1) (ci := 12) (v := .int (nI 4)) (ty := .int) (C := RX12) (T := TX12) (N := 116) hx hb hts iX12 tyX12 tyX12_ok nmX12 hown hK hP hD hS 0 rfl rfl 1 (by decide) (hts _ wdF_RX12_258) (fun _ h9 => h9) rfl (by decide +kernel) rfl rfl (by rw [mfs_len]; decide) dX12_feed_103 (fun H locs hP hD hS => ?_)
  have hP : va_P E.1 vwCl [(h0, ob 12 ((mfs (updG (updG (updG g 1 (.int (nI 1))) 1 (.int (nI 2))) 1 (.int (nI 3)))).set 1 (.int (nI 4)))), ((r 0), aB E 4096 (upd (upd (upd (upd (fun _ => 0) 0 (vp_nar .byte ((a >>> ((nI 24) &&& 31)).toInt8.toInt32))) 1 (vp_nar .byte ((a >>> ((nI 16) &&& 31)).toInt8.toInt32))) 2 (vp_nar .byte ((a >>> ((nI 8) &&& 31)).toInt8.toInt32))) 3 (vp_nar .byte ((a >>> ((nI 0) &&& 31)).toInt8.toInt32))))] H := hP
  have hD : va_D A [(h0, ob 12 ((mfs (updG (updG (updG g 1 (.int (nI 1))) 1 (.int (nI 2))) 1 (.int (nI 3)))).set 1 (.int (nI 4)))), ((r 0), aB E 4096 (upd (upd (upd (upd (fun _ => 0) 0 (vp_nar .byte ((a >>> ((nI 24) &&& 31)).toInt8.toInt32))) 1 (vp_nar .byte ((a >>> ((nI 16) &&& 31)).toInt8.toInt32))) 2 (vp_nar .byte ((a >>> ((nI 8) &&& 31)).toInt8.toInt32))) 3 (vp_nar .byte ((a >>> ((nI 0) &&& 31)).toInt8.toInt32))))] := hD
  rw [mfs_set _ 1 _ (by decide)] at hP hD
  refine lv_iinc (v := nI 4) (lv' := [(6, .int (nI 4)), (7, .int a), (0, .ref h0), (1, .int a), (2, .int b), (3, .int c9), (4, .int d), (5, .int e9)]) hx hb dX12_feed_106 hl (k := 1) rfl (by decide) (by decide) rfl (fun ls hl => ?_)
  refine lv_goto (tgt := 18) hx hb dX12_feed_109 (by decide) ?_
  refine lv_iload hx hb dX12_feed_18 (lv_at hl 0 rfl) ?_
  refine lv_bipush (v := nI 20) hx hb dX12_feed_20 (by decide) ?_
  refine lv_icmp_ge (tgt := 112) hx hb dX12_feed_22 (by decide) (fun c_954 => absurd c_954 (by decide)) (fun c_954 => ?_)
  refine lv_iload hx hb dX12_feed_25 (lv_at hl 0 rfl) ?_
  refine lv_iconst (v := nI 4) hx hb dX12_feed_27 (by decide) ?_
  refine lv_icmp_ge (tgt := 35) hx hb dX12_feed_28 (by decide) (fun c_955 => ?_) (fun c_955 => absurd (by decide) c_955)
  refine lv_iload hx hb dX12_feed_35 (lv_at hl 0 rfl) ?_
  refine lv_bipush (v := nI 8) hx hb dX12_feed_37 (by decide) ?_
  refine lv_icmp_ge (tgt := 46) hx hb dX12_feed_39 (by decide) (fun c_956 => absurd c_956 (by decide)) (fun c_956 => ?_)
  refine lv_iload_n hx hb dX12_feed_42 rfl (lv_at hl 4 rfl) ?_
  refine lv_goto (tgt := 71) hx hb dX12_feed_43 (by decide) ?_
  refine lv_istore (lv' := [(7, .int b), (6, .int (nI 4)), (0, .ref h0), (1, .int a), (2, .int b), (3, .int c9), (4, .int d), (5, .int e9)]) hx hb dX12_feed_71 hl (by decide) rfl (fun ls hl => ?_)
  refine lv_aload_n hx hb dX12_feed_73 rfl (lv_at hl 2 rfl) ?_
  refine va_get (D := E.1) (ci := 12) (v := .ref (r 0)) (C := RX12) (T := TX12) (N := 116) hx hb hts iX12 hown hK hP 0 rfl rfl 0 (by decide) (hts _ wdF_RX12_7) (fun _ h9 => h9) ((mfs_get _ 0 (by decide)).trans (congrArg some (show (updG (updG (updG (updG g 1 (.int (nI 1))) 1 (.int (nI 2))) 1 (.int (nI 3))) 1 (.int (nI 4))) 0 = .ref (r 0) from (hR 0 rfl)))) dX12_feed_74 ?_
  refine lv_aload_n hx hb dX12_feed_77 rfl (lv_at hl 2 rfl) ?_
  refine va_get (D := E.1) (ci := 12) (v := .int (nI 4)) (C := RX12) (T := TX12) (N := 116) hx hb hts iX12 hown hK hP 0 rfl rfl 1 (by decide) (hts _ wdF_RX12_258) (fun _ h9 => h9) ((mfs_get _ 1 (by decide)).trans (congrArg some (show (updG (updG (updG (updG g 1 (.int (nI 1))) 1 (.int (nI 2))) 1 (.int (nI 3))) 1 (.int (nI 4))) 1 = .int (nI 4) from rfl))) dX12_feed_78 ?_
  refine lv_iload hx hb dX12_feed_81 (lv_at hl 0 rfl) ?_
  refine lv_bipush (v := nI 24) hx hb dX12_feed_83 (by decide) ?_
  refine lv_bipush (v := nI 8) hx hb dX12_feed_85 (by decide) ?_
  refine lv_iload hx hb dX12_feed_87 (lv_at hl 1 rfl) ?_
  refine lv_iconst (v := nI 3) hx hb dX12_feed_89 (by decide) ?_
  refine lv_iand hx hb dX12_feed_90 ?_
  rw [show ((nI 4) &&& (nI 3) : Int32) = nI 0 from by decide]
  refine lv_imul hx hb dX12_feed_91 ?_
  rw [show ((nI 8) * (nI 0) : Int32) = nI 0 from by decide]
  refine lv_isub hx hb dX12_feed_92 ?_
  rw [show ((nI 24) - (nI 0) : Int32) = nI 24 from by decide]
  refine lv_ishr hx hb dX12_feed_93 ?_
  refine lv_i2b hx hb dX12_feed_94 rfl ?_
  refine va_bast hx hb hK hP hD hS 1 0 rfl rfl (vp_in_nI (by decide) (by decide)) dX12_feed_95 (fun H locs hP hD hS => ?_)
  have hP : va_P E.1 vwCl [(h0, ob 12 (mfs (updG (updG (updG (updG g 1 (.int (nI 1))) 1 (.int (nI 2))) 1 (.int (nI 3))) 1 (.int (nI 4))))), ((r 0), aB E 4096 (upd (upd (upd (upd (upd (fun _ => 0) 0 (vp_nar .byte ((a >>> ((nI 24) &&& 31)).toInt8.toInt32))) 1 (vp_nar .byte ((a >>> ((nI 16) &&& 31)).toInt8.toInt32))) 2 (vp_nar .byte ((a >>> ((nI 8) &&& 31)).toInt8.toInt32))) 3 (vp_nar .byte ((a >>> ((nI 0) &&& 31)).toInt8.toInt32))) (nI 4).toNatClampNeg (vp_nar .byte ((b >>> ((nI 24) &&& 31)).toInt8.toInt32))))] H := hP
  have hD : va_D A [(h0, ob 12 (mfs (updG (updG (updG (updG g 1 (.int (nI 1))) 1 (.int (nI 2))) 1 (.int (nI 3))) 1 (.int (nI 4))))), ((r 0), aB E 4096 (upd (upd (upd (upd (upd (fun _ => 0) 0 (vp_nar .byte ((a >>> ((nI 24) &&& 31)).toInt8.toInt32))) 1 (vp_nar .byte ((a >>> ((nI 16) &&& 31)).toInt8.toInt32))) 2 (vp_nar .byte ((a >>> ((nI 8) &&& 31)).toInt8.toInt32))) 3 (vp_nar .byte ((a >>> ((nI 0) &&& 31)).toInt8.toInt32))) (nI 4).toNatClampNeg (vp_nar .byte ((b >>> ((nI 24) &&& 31)).toInt8.toInt32))))] := hD
  rw [nI_clamp (n := 4) (by decide)] at hP hD
  refine lv_aload_n hx hb dX12_feed_96 rfl (lv_at hl 2 rfl) ?_
  refine lv_dup hx hb dX12_feed_97 rfl ?_
  refine va_get (D := E.1) (ci := 12) (v := .int (nI 4)) (C := RX12) (T := TX12) (N := 116) hx hb hts iX12 hown hK hP 0 rfl rfl 1 (by decide) (hts _ wdF_RX12_258) (fun _ h9 => h9) ((mfs_get _ 1 (by decide)).trans (congrArg some (show (updG (updG (updG (updG g 1 (.int (nI 1))) 1 (.int (nI 2))) 1 (.int (nI 3))) 1 (.int (nI 4))) 1 = .int (nI 4) from rfl))) dX12_feed_98 ?_
  refine lv_iconst (v := nI 1) hx hb dX12_feed_101 (by decide) ?_
  refine lv_iadd hx hb dX12_feed_102 ?_
  rw [show ((nI 4) + (nI 1) : Int32) = nI 5 from by decide]
  refine va_put (D := E.1) (ci := 12) (v := .int (nI 5)) (ty := .int) (C := RX12) (T := TX12) (N := 116) hx hb hts iX12 tyX12 tyX12_ok nmX12 hown hK hP hD hS 0 rfl rfl 1 (by decide) (hts _ wdF_RX12_258) (fun _ h9 => h9) rfl (by decide +kernel) rfl rfl (by rw [mfs_len]; decide) dX12_feed_103 (fun H locs hP hD hS => ?_)
  have hP : va_P E.1 vwCl [(h0, ob 12 ((mfs (updG (updG (updG (updG g 1 (.int (nI 1))) 1 (.int (nI 2))) 1 (.int (nI 3))) 1 (.int (nI 4)))).set 1 (.int (nI 5)))), ((r 0), aB E 4096 (upd (upd (upd (upd (upd (fun _ => 0) 0 (vp_nar .byte ((a >>> ((nI 24) &&& 31)).toInt8.toInt32))) 1 (vp_nar .byte ((a >>> ((nI 16) &&& 31)).toInt8.toInt32))) 2 (vp_nar .byte ((a >>> ((nI 8) &&& 31)).toInt8.toInt32))) 3 (vp_nar .byte ((a >>> ((nI 0) &&& 31)).toInt8.toInt32))) 4 (vp_nar .byte ((b >>> ((nI 24) &&& 31)).toInt8.toInt32))))] H := hP
  have hD : va_D A [(h0, ob 12 ((mfs (updG (updG (updG (updG g 1 (.int (nI 1))) 1 (.int (nI 2))) 1 (.int (nI 3))) 1 (.int (nI 4)))).set 1 (.int (nI 5)))), ((r 0), aB E 4096 (upd (upd (upd (upd (upd (fun _ => 0) 0 (vp_nar .byte ((a >>> ((nI 24) &&& 31)).toInt8.toInt32))) 1 (vp_nar .byte ((a >>> ((nI 16) &&& 31)).toInt8.toInt32))) 2 (vp_nar .byte ((a >>> ((nI 8) &&& 31)).toInt8.toInt32))) 3 (vp_nar .byte ((a >>> ((nI 0) &&& 31)).toInt8.toInt32))) 4 (vp_nar .byte ((b >>> ((nI 24) &&& 31)).toInt8.toInt32))))] := hD
  rw [mfs_set _ 1 _ (by decide)] at hP hD
  refine lv_iinc (v := nI 5) (lv' := [(6, .int (nI 5)), (7, .int b), (0, .ref h0), (1, .int a), (2, .int b), (3, .int c9), (4, .int d), (5, .int e9)]) hx hb dX12_feed_106 hl (k := 1) rfl (by decide) (by decide) rfl (fun ls hl => ?_)
  refine lv_goto (tgt := 18) hx hb dX12_feed_109 (by decide) ?_
  refine lv_iload hx hb dX12_feed_18 (lv_at hl 0 rfl) ?_
  refine lv_bipush (v := nI 20) hx hb dX12_feed_20 (by decide) ?_
  refine lv_icmp_ge (tgt := 112) hx hb dX12_feed_22 (by decide) (fun c_957 => absurd c_957 (by decide)) (fun c_957 => ?_)
  refine lv_iload hx hb dX12_feed_25 (lv_at hl 0 rfl) ?_
  refine lv_iconst (v := nI 4) hx hb dX12_feed_27 (by decide) ?_
  refine lv_icmp_ge (tgt := 35) hx hb dX12_feed_28 (by decide) (fun c_958 => ?_) (fun c_958 => absurd (by decide) c_958)
  refine lv_iload hx hb dX12_feed_35 (lv_at hl 0 rfl) ?_
  refine lv_bipush (v := nI 8) hx hb dX12_feed_37 (by decide) ?_
  refine lv_icmp_ge (tgt := 46) hx hb dX12_feed_39 (by decide) (fun c_959 => absurd c_959 (by decide)) (fun c_959 => ?_)
  refine lv_iload_n hx hb dX12_feed_42 rfl (lv_at hl 4 rfl) ?_
  refine lv_goto (tgt := 71) hx hb dX12_feed_43 (by decide) ?_
  refine lv_istore (lv' := [(7, .int b), (6, .int (nI 5)), (0, .ref h0), (1, .int a), (2, .int b), (3, .int c9), (4, .int d), (5, .int e9)]) hx hb dX12_feed_71 hl (by decide) rfl (fun ls hl => ?_)
  refine lv_aload_n hx hb dX12_feed_73 rfl (lv_at hl 2 rfl) ?_
  refine va_get (D := E.1) (ci := 12) (v := .ref (r 0)) (C := RX12) (T := TX12) (N := 116) hx hb hts iX12 hown hK hP 0 rfl rfl 0 (by decide) (hts _ wdF_RX12_7) (fun _ h9 => h9) ((mfs_get _ 0 (by decide)).trans (congrArg some (show (updG (updG (updG (updG (updG g 1 (.int (nI 1))) 1 (.int (nI 2))) 1 (.int (nI 3))) 1 (.int (nI 4))) 1 (.int (nI 5))) 0 = .ref (r 0) from (hR 0 rfl)))) dX12_feed_74 ?_
  refine lv_aload_n hx hb dX12_feed_77 rfl (lv_at hl 2 rfl) ?_
  refine va_get (D := E.1) (ci := 12) (v := .int (nI 5)) (C := RX12) (T := TX12) (N := 116) hx hb hts iX12 hown hK hP 0 rfl rfl 1 (by decide) (hts _ wdF_RX12_258) (fun _ h9 => h9) ((mfs_get _ 1 (by decide)).trans (congrArg some (show (updG (updG (updG (updG (updG g 1 (.int (nI 1))) 1 (.int (nI 2))) 1 (.int (nI 3))) 1 (.int (nI 4))) 1 (.int (nI 5))) 1 = .int (nI 5) from rfl))) dX12_feed_78 ?_
  refine lv_iload hx hb dX12_feed_81 (lv_at hl 0 rfl) ?_
  refine lv_bipush (v := nI 24) hx hb dX12_feed_83 (by decide) ?_
  refine lv_bipush (v := nI 8) hx hb dX12_feed_85 (by decide) ?_
  refine lv_iload hx hb dX12_feed_87 (lv_at hl 1 rfl) ?_
  refine lv_iconst (v := nI 3) hx hb dX12_feed_89 (by decide) ?_
  refine lv_iand hx hb dX12_feed_90 ?_
  rw [show ((nI 5) &&& (nI 3) : Int32) = nI 1 from by decide]
  refine lv_imul hx hb dX12_feed_91 ?_
  rw [show ((nI 8) * (nI 1) : Int32) = nI 8 from by decide]
  refine lv_isub hx hb dX12_feed_92 ?_
  rw [show ((nI 24) - (nI 8) : Int32) = nI 16 from by decide]
  refine lv_ishr hx hb dX12_feed_93 ?_
  refine lv_i2b hx hb dX12_feed_94 rfl ?_
  refine va_bast hx hb hK hP hD hS 1 0 rfl rfl (vp_in_nI (by decide) (by decide)) dX12_feed_95 (fun H locs hP hD hS => ?_)
  have hP : va_P E.1 vwCl [(h0, ob 12 (mfs (updG (updG (updG (updG (updG g 1 (.int (nI 1))) 1 (.int (nI 2))) 1 (.int (nI 3))) 1 (.int (nI 4))) 1 (.int (nI 5))))), ((r 0), aB E 4096 (upd (upd (upd (upd (upd (upd (fun _ => 0) 0 (vp_nar .byte ((a >>> ((nI 24) &&& 31)).toInt8.toInt32))) 1 (vp_nar .byte ((a >>> ((nI 16) &&& 31)).toInt8.toInt32))) 2 (vp_nar .byte ((a >>> ((nI 8) &&& 31)).toInt8.toInt32))) 3 (vp_nar .byte ((a >>> ((nI 0) &&& 31)).toInt8.toInt32))) 4 (vp_nar .byte ((b >>> ((nI 24) &&& 31)).toInt8.toInt32))) (nI 5).toNatClampNeg (vp_nar .byte ((b >>> ((nI 16) &&& 31)).toInt8.toInt32))))] H := hP
  have hD : va_D A [(h0, ob 12 (mfs (updG (updG (updG (updG (updG g 1 (.int (nI 1))) 1 (.int (nI 2))) 1 (.int (nI 3))) 1 (.int (nI 4))) 1 (.int (nI 5))))), ((r 0), aB E 4096 (upd (upd (upd (upd (upd (upd (fun _ => 0) 0 (vp_nar .byte ((a >>> ((nI 24) &&& 31)).toInt8.toInt32))) 1 (vp_nar .byte ((a >>> ((nI 16) &&& 31)).toInt8.toInt32))) 2 (vp_nar .byte ((a >>> ((nI 8) &&& 31)).toInt8.toInt32))) 3 (vp_nar .byte ((a >>> ((nI 0) &&& 31)).toInt8.toInt32))) 4 (vp_nar .byte ((b >>> ((nI 24) &&& 31)).toInt8.toInt32))) (nI 5).toNatClampNeg (vp_nar .byte ((b >>> ((nI 16) &&& 31)).toInt8.toInt32))))] := hD
  rw [nI_clamp (n := 5) (by decide)] at hP hD
  refine lv_aload_n hx hb dX12_feed_96 rfl (lv_at hl 2 rfl) ?_
  refine lv_dup hx hb dX12_feed_97 rfl ?_
  refine va_get (D := E.1) (ci := 12) (v := .int (nI 5)) (C := RX12) (T := TX12) (N := 116) hx hb hts iX12 hown hK hP 0 rfl rfl 1 (by decide) (hts _ wdF_RX12_258) (fun _ h9 => h9) ((mfs_get _ 1 (by decide)).trans (congrArg some (show (updG (updG (updG (updG (updG g 1 (.int (nI 1))) 1 (.int (nI 2))) 1 (.int (nI 3))) 1 (.int (nI 4))) 1 (.int (nI 5))) 1 = .int (nI 5) from rfl))) dX12_feed_98 ?_
  refine lv_iconst (v := nI 1) hx hb dX12_feed_101 (by decide) ?_
  refine lv_iadd hx hb dX12_feed_102 ?_
  rw [show ((nI 5) + (nI 1) : Int32) = nI 6 from by decide]
  refine va_put (D := E.1) (ci := 12) (v := .int (nI 6)) (ty := .int) (C := RX12) (T := TX12) (N := 116) hx hb hts iX12 tyX12 tyX12_ok nmX12 hown hK hP hD hS 0 rfl rfl 1 (by decide) (hts _ wdF_RX12_258) (fun _ h9 => h9) rfl (by decide +kernel) rfl rfl (by rw [mfs_len]; decide) dX12_feed_103 (fun H locs hP hD hS => ?_)
  have hP : va_P E.1 vwCl [(h0, ob 12 ((mfs (updG (updG (updG (updG (updG g 1 (.int (nI 1))) 1 (.int (nI 2))) 1 (.int (nI 3))) 1 (.int (nI 4))) 1 (.int (nI 5)))).set 1 (.int (nI 6)))), ((r 0), aB E 4096 (upd (upd (upd (upd (upd (upd (fun _ => 0) 0 (vp_nar .byte ((a >>> ((nI 24) &&& 31)).toInt8.toInt32))) 1 (vp_nar .byte ((a >>> ((nI 16) &&& 31)).toInt8.toInt32))) 2 (vp_nar .byte ((a >>> ((nI 8) &&& 31)).toInt8.toInt32))) 3 (vp_nar .byte ((a >>> ((nI 0) &&& 31)).toInt8.toInt32))) 4 (vp_nar .byte ((b >>> ((nI 24) &&& 31)).toInt8.toInt32))) 5 (vp_nar .byte ((b >>> ((nI 16) &&& 31)).toInt8.toInt32))))] H := hP
  have hD : va_D A [(h0, ob 12 ((mfs (updG (updG (updG (updG (updG g 1 (.int (nI 1))) 1 (.int (nI 2))) 1 (.int (nI 3))) 1 (.int (nI 4))) 1 (.int (nI 5)))).set 1 (.int (nI 6)))), ((r 0), aB E 4096 (upd (upd (upd (upd (upd (upd (fun _ => 0) 0 (vp_nar .byte ((a >>> ((nI 24) &&& 31)).toInt8.toInt32))) 1 (vp_nar .byte ((a >>> ((nI 16) &&& 31)).toInt8.toInt32))) 2 (vp_nar .byte ((a >>> ((nI 8) &&& 31)).toInt8.toInt32))) 3 (vp_nar .byte ((a >>> ((nI 0) &&& 31)).toInt8.toInt32))) 4 (vp_nar .byte ((b >>> ((nI 24) &&& 31)).toInt8.toInt32))) 5 (vp_nar .byte ((b >>> ((nI 16) &&& 31)).toInt8.toInt32))))] := hD
  rw [mfs_set _ 1 _ (by decide)] at hP hD
  refine lv_iinc (v := nI 6) (lv' := [(6, .int (nI 6)), (7, .int b), (0, .ref h0), (1, .int a), (2, .int b), (3, .int c9), (4, .int d), (5, .int e9)]) hx hb dX12_feed_106 hl (k := 1) rfl (by decide) (by decide) rfl (fun ls hl => ?_)
  refine lv_goto (tgt := 18) hx hb dX12_feed_109 (by decide) ?_
  refine lv_iload hx hb dX12_feed_18 (lv_at hl 0 rfl) ?_
  refine lv_bipush (v := nI 20) hx hb dX12_feed_20 (by decide) ?_
  refine lv_icmp_ge (tgt := 112) hx hb dX12_feed_22 (by decide) (fun c_960 => absurd c_960 (by decide)) (fun c_960 => ?_)
  refine lv_iload hx hb dX12_feed_25 (lv_at hl 0 rfl) ?_
  refine lv_iconst (v := nI 4) hx hb dX12_feed_27 (by decide) ?_
  refine lv_icmp_ge (tgt := 35) hx hb dX12_feed_28 (by decide) (fun c_961 => ?_) (fun c_961 => absurd (by decide) c_961)
  refine lv_iload hx hb dX12_feed_35 (lv_at hl 0 rfl) ?_
  refine lv_bipush (v := nI 8) hx hb dX12_feed_37 (by decide) ?_
  refine lv_icmp_ge (tgt := 46) hx hb dX12_feed_39 (by decide) (fun c_962 => absurd c_962 (by decide)) (fun c_962 => ?_)
  refine lv_iload_n hx hb dX12_feed_42 rfl (lv_at hl 4 rfl) ?_
  refine lv_goto (tgt := 71) hx hb dX12_feed_43 (by decide) ?_
  refine lv_istore (lv' := [(7, .int b), (6, .int (nI 6)), (0, .ref h0), (1, .int a), (2, .int b), (3, .int c9), (4, .int d), (5, .int e9)]) hx hb dX12_feed_71 hl (by decide) rfl (fun ls hl => ?_)
  refine lv_aload_n hx hb dX12_feed_73 rfl (lv_at hl 2 rfl) ?_
  refine va_get (D := E.1) (ci := 12) (v := .ref (r 0)) (C := RX12) (T := TX12) (N := 116) hx hb hts iX12 hown hK hP 0 rfl rfl 0 (by decide) (hts _ wdF_RX12_7) (fun _ h9 => h9) ((mfs_get _ 0 (by decide)).trans (congrArg some (show (updG (updG (updG (updG (updG (updG g 1 (.int (nI 1))) 1 (.int (nI 2))) 1 (.int (nI 3))) 1 (.int (nI 4))) 1 (.int (nI 5))) 1 (.int (nI 6))) 0 = .ref (r 0) from (hR 0 rfl)))) dX12_feed_74 ?_
  refine lv_aload_n hx hb dX12_feed_77 rfl (lv_at hl 2 rfl) ?_
  refine va_get (D := E.1) (ci := 12) (v := .int (nI 6)) (C := RX12) (T := TX12) (N := 116) hx hb hts iX12 hown hK hP 0 rfl rfl 1 (by decide) (hts _ wdF_RX12_258) (fun _ h9 => h9) ((mfs_get _ 1 (by decide)).trans (congrArg some (show (updG (updG (updG (updG (updG (updG g 1 (.int (nI 1))) 1 (.int (nI 2))) 1 (.int (nI 3))) 1 (.int (nI 4))) 1 (.int (nI 5))) 1 (.int (nI 6))) 1 = .int (nI 6) from rfl))) dX12_feed_78 ?_
  refine lv_iload hx hb dX12_feed_81 (lv_at hl 0 rfl) ?_
  refine lv_bipush (v := nI 24) hx hb dX12_feed_83 (by decide) ?_
  refine lv_bipush (v := nI 8) hx hb dX12_feed_85 (by decide) ?_
  refine lv_iload hx hb dX12_feed_87 (lv_at hl 1 rfl) ?_
  refine lv_iconst (v := nI 3) hx hb dX12_feed_89 (by decide) ?_
  refine lv_iand hx hb dX12_feed_90 ?_
  rw [show ((nI 6) &&& (nI 3) : Int32) = nI 2 from by decide]
  refine lv_imul hx hb dX12_feed_91 ?_
  rw [show ((nI 8) * (nI 2) : Int32) = nI 16 from by decide]
  refine lv_isub hx hb dX12_feed_92 ?_
  rw [show ((nI 24) - (nI 16) : Int32) = nI 8 from by decide]
  refine lv_ishr hx hb dX12_feed_93 ?_
  refine lv_i2b hx hb dX12_feed_94 rfl ?_
  refine va_bast hx hb hK hP hD hS 1 0 rfl rfl (vp_in_nI (by decide) (by decide)) dX12_feed_95 (fun H locs hP hD hS => ?_)
  have hP : va_P E.1 vwCl [(h0, ob 12 (mfs (updG (updG (updG (updG (updG (updG g 1 (.int (nI 1))) 1 (.int (nI 2))) 1 (.int (nI 3))) 1 (.int (nI 4))) 1 (.int (nI 5))) 1 (.int (nI 6))))), ((r 0), aB E 4096 (upd (upd (upd (upd (upd (upd (upd (fun _ => 0) 0 (vp_nar .byte ((a >>> ((nI 24) &&& 31)).toInt8.toInt32))) 1 (vp_nar .byte ((a >>> ((nI 16) &&& 31)).toInt8.toInt32))) 2 (vp_nar .byte ((a >>> ((nI 8) &&& 31)).toInt8.toInt32))) 3 (vp_nar .byte ((a >>> ((nI 0) &&& 31)).toInt8.toInt32))) 4 (vp_nar .byte ((b >>> ((nI 24) &&& 31)).toInt8.toInt32))) 5 (vp_nar .byte ((b >>> ((nI 16) &&& 31)).toInt8.toInt32))) (nI 6).toNatClampNeg (vp_nar .byte ((b >>> ((nI 8) &&& 31)).toInt8.toInt32))))] H := hP
  have hD : va_D A [(h0, ob 12 (mfs (updG (updG (updG (updG (updG (updG g 1 (.int (nI 1))) 1 (.int (nI 2))) 1 (.int (nI 3))) 1 (.int (nI 4))) 1 (.int (nI 5))) 1 (.int (nI 6))))), ((r 0), aB E 4096 (upd (upd (upd (upd (upd (upd (upd (fun _ => 0) 0 (vp_nar .byte ((a >>> ((nI 24) &&& 31)).toInt8.toInt32))) 1 (vp_nar .byte ((a >>> ((nI 16) &&& 31)).toInt8.toInt32))) 2 (vp_nar .byte ((a >>> ((nI 8) &&& 31)).toInt8.toInt32))) 3 (vp_nar .byte ((a >>> ((nI 0) &&& 31)).toInt8.toInt32))) 4 (vp_nar .byte ((b >>> ((nI 24) &&& 31)).toInt8.toInt32))) 5 (vp_nar .byte ((b >>> ((nI 16) &&& 31)).toInt8.toInt32))) (nI 6).toNatClampNeg (vp_nar .byte ((b >>> ((nI 8) &&& 31)).toInt8.toInt32))))] := hD
  rw [nI_clamp (n := 6) (by decide)] at hP hD
  refine lv_aload_n hx hb dX12_feed_96 rfl (lv_at hl 2 rfl) ?_
  refine lv_dup hx hb dX12_feed_97 rfl ?_
  refine va_get (D := E.1) (ci := 12) (v := .int (nI 6)) (C := RX12) (T := TX12) (N := 116) hx hb hts iX12 hown hK hP 0 rfl rfl 1 (by decide) (hts _ wdF_RX12_258) (fun _ h9 => h9) ((mfs_get _ 1 (by decide)).trans (congrArg some (show (updG (updG (updG (updG (updG (updG g 1 (.int (nI 1))) 1 (.int (nI 2))) 1 (.int (nI 3))) 1 (.int (nI 4))) 1 (.int (nI 5))) 1 (.int (nI 6))) 1 = .int (nI 6) from rfl))) dX12_feed_98 ?_
  refine lv_iconst (v := nI 1) hx hb dX12_feed_101 (by decide) ?_
  refine lv_iadd hx hb dX12_feed_102 ?_
  rw [show ((nI 6) + (nI 1) : Int32) = nI 7 from by decide]
  refine va_put (D := E.1) (ci := 12) (v := .int (nI 7)) (ty := .int) (C := RX12) (T := TX12) (N := 116) hx hb hts iX12 tyX12 tyX12_ok nmX12 hown hK hP hD hS 0 rfl rfl 1 (by decide) (hts _ wdF_RX12_258) (fun _ h9 => h9) rfl (by decide +kernel) rfl rfl (by rw [mfs_len]; decide) dX12_feed_103 (fun H locs hP hD hS => ?_)
  have hP : va_P E.1 vwCl [(h0, ob 12 ((mfs (updG (updG (updG (updG (updG (updG g 1 (.int (nI 1))) 1 (.int (nI 2))) 1 (.int (nI 3))) 1 (.int (nI 4))) 1 (.int (nI 5))) 1 (.int (nI 6)))).set 1 (.int (nI 7)))), ((r 0), aB E 4096 (upd (upd (upd (upd (upd (upd (upd (fun _ => 0) 0 (vp_nar .byte ((a >>> ((nI 24) &&& 31)).toInt8.toInt32))) 1 (vp_nar .byte ((a >>> ((nI 16) &&& 31)).toInt8.toInt32))) 2 (vp_nar .byte ((a >>> ((nI 8) &&& 31)).toInt8.toInt32))) 3 (vp_nar .byte ((a >>> ((nI 0) &&& 31)).toInt8.toInt32))) 4 (vp_nar .byte ((b >>> ((nI 24) &&& 31)).toInt8.toInt32))) 5 (vp_nar .byte ((b >>> ((nI 16) &&& 31)).toInt8.toInt32))) 6 (vp_nar .byte ((b >>> ((nI 8) &&& 31)).toInt8.toInt32))))] H := hP
  have hD : va_D A [(h0, ob 12 ((mfs (updG (updG (updG (updG (updG (updG g 1 (.int (nI 1))) 1 (.int (nI 2))) 1 (.int (nI 3))) 1 (.int (nI 4))) 1 (.int (nI 5))) 1 (.int (nI 6)))).set 1 (.int (nI 7)))), ((r 0), aB E 4096 (upd (upd (upd (upd (upd (upd (upd (fun _ => 0) 0 (vp_nar .byte ((a >>> ((nI 24) &&& 31)).toInt8.toInt32))) 1 (vp_nar .byte ((a >>> ((nI 16) &&& 31)).toInt8.toInt32))) 2 (vp_nar .byte ((a >>> ((nI 8) &&& 31)).toInt8.toInt32))) 3 (vp_nar .byte ((a >>> ((nI 0) &&& 31)).toInt8.toInt32))) 4 (vp_nar .byte ((b >>> ((nI 24) &&& 31)).toInt8.toInt32))) 5 (vp_nar .byte ((b >>> ((nI 16) &&& 31)).toInt8.toInt32))) 6 (vp_nar .byte ((b >>> ((nI 8) &&& 31)).toInt8.toInt32))))] := hD
  rw [mfs_set _ 1 _ (by decide)] at hP hD
  refine lv_iinc (v := nI 7) (lv' := [(6, .int (nI 7)), (7, .int b), (0, .ref h0), (1, .int a), (2, .int b), (3, .int c9), (4, .int d), (5, .int e9)]) hx hb dX12_feed_106 hl (k := 1) rfl (by decide) (by decide) rfl (fun ls hl => ?_)
  refine lv_goto (tgt := 18) hx hb dX12_feed_109 (by decide) ?_
  refine lv_iload hx hb dX12_feed_18 (lv_at hl 0 rfl) ?_
  refine lv_bipush (v := nI 20) hx hb dX12_feed_20 (by decide) ?_
  refine lv_icmp_ge (tgt := 112) hx hb dX12_feed_22 (by decide) (fun c_963 => absurd c_963 (by decide)) (fun c_963 => ?_)
  refine lv_iload hx hb dX12_feed_25 (lv_at hl 0 rfl) ?_
  refine lv_iconst (v := nI 4) hx hb dX12_feed_27 (by decide) ?_
  refine lv_icmp_ge (tgt := 35) hx hb dX12_feed_28 (by decide) (fun c_964 => ?_) (fun c_964 => absurd (by decide) c_964)
  refine lv_iload hx hb dX12_feed_35 (lv_at hl 0 rfl) ?_
  refine lv_bipush (v := nI 8) hx hb dX12_feed_37 (by decide) ?_
  refine lv_icmp_ge (tgt := 46) hx hb dX12_feed_39 (by decide) (fun c_965 => absurd c_965 (by decide)) (fun c_965 => ?_)
  refine lv_iload_n hx hb dX12_feed_42 rfl (lv_at hl 4 rfl) ?_
  refine lv_goto (tgt := 71) hx hb dX12_feed_43 (by decide) ?_
  refine lv_istore (lv' := [(7, .int b), (6, .int (nI 7)), (0, .ref h0), (1, .int a), (2, .int b), (3, .int c9), (4, .int d), (5, .int e9)]) hx hb dX12_feed_71 hl (by decide) rfl (fun ls hl => ?_)
  refine lv_aload_n hx hb dX12_feed_73 rfl (lv_at hl 2 rfl) ?_
  refine va_get (D := E.1) (ci := 12) (v := .ref (r 0)) (C := RX12) (T := TX12) (N := 116) hx hb hts iX12 hown hK hP 0 rfl rfl 0 (by decide) (hts _ wdF_RX12_7) (fun _ h9 => h9) ((mfs_get _ 0 (by decide)).trans (congrArg some (show (updG (updG (updG (updG (updG (updG (updG g 1 (.int (nI 1))) 1 (.int (nI 2))) 1 (.int (nI 3))) 1 (.int (nI 4))) 1 (.int (nI 5))) 1 (.int (nI 6))) 1 (.int (nI 7))) 0 = .ref (r 0) from (hR 0 rfl)))) dX12_feed_74 ?_
  refine lv_aload_n hx hb dX12_feed_77 rfl (lv_at hl 2 rfl) ?_
  refine va_get (D := E.1) (ci := 12) (v := .int (nI 7)) (C := RX12) (T := TX12) (N := 116) hx hb hts iX12 hown hK hP 0 rfl rfl 1 (by decide) (hts _ wdF_RX12_258) (fun _ h9 => h9) ((mfs_get _ 1 (by decide)).trans (congrArg some (show (updG (updG (updG (updG (updG (updG (updG g 1 (.int (nI 1))) 1 (.int (nI 2))) 1 (.int (nI 3))) 1 (.int (nI 4))) 1 (.int (nI 5))) 1 (.int (nI 6))) 1 (.int (nI 7))) 1 = .int (nI 7) from rfl))) dX12_feed_78 ?_
  refine lv_iload hx hb dX12_feed_81 (lv_at hl 0 rfl) ?_
  refine lv_bipush (v := nI 24) hx hb dX12_feed_83 (by decide) ?_
  refine lv_bipush (v := nI 8) hx hb dX12_feed_85 (by decide) ?_
  refine lv_iload hx hb dX12_feed_87 (lv_at hl 1 rfl) ?_
  refine lv_iconst (v := nI 3) hx hb dX12_feed_89 (by decide) ?_
  refine lv_iand hx hb dX12_feed_90 ?_
  rw [show ((nI 7) &&& (nI 3) : Int32) = nI 3 from by decide]
  refine lv_imul hx hb dX12_feed_91 ?_
  rw [show ((nI 8) * (nI 3) : Int32) = nI 24 from by decide]
  refine lv_isub hx hb dX12_feed_92 ?_
  rw [show ((nI 24) - (nI 24) : Int32) = nI 0 from by decide]
  refine lv_ishr hx hb dX12_feed_93 ?_
  refine lv_i2b hx hb dX12_feed_94 rfl ?_
  refine va_bast hx hb hK hP hD hS 1 0 rfl rfl (vp_in_nI (by decide) (by decide)) dX12_feed_95 (fun H locs hP hD hS => ?_)
  have hP : va_P E.1 vwCl [(h0, ob 12 (mfs (updG (updG (updG (updG (updG (updG (updG g 1 (.int (nI 1))) 1 (.int (nI 2))) 1 (.int (nI 3))) 1 (.int (nI 4))) 1 (.int (nI 5))) 1 (.int (nI 6))) 1 (.int (nI 7))))), ((r 0), aB E 4096 (upd (upd (upd (upd (upd (upd (upd (upd (fun _ => 0) 0 (vp_nar .byte ((a >>> ((nI 24) &&& 31)).toInt8.toInt32))) 1 (vp_nar .byte ((a >>> ((nI 16) &&& 31)).toInt8.toInt32))) 2 (vp_nar .byte ((a >>> ((nI 8) &&& 31)).toInt8.toInt32))) 3 (vp_nar .byte ((a >>> ((nI 0) &&& 31)).toInt8.toInt32))) 4 (vp_nar .byte ((b >>> ((nI 24) &&& 31)).toInt8.toInt32))) 5 (vp_nar .byte ((b >>> ((nI 16) &&& 31)).toInt8.toInt32))) 6 (vp_nar .byte ((b >>> ((nI 8) &&& 31)).toInt8.toInt32))) (nI 7).toNatClampNeg (vp_nar .byte ((b >>> ((nI 0) &&& 31)).toInt8.toInt32))))] H := hP
  have hD : va_D A [(h0, ob 12 (mfs (updG (updG (updG (updG (updG (updG (updG g 1 (.int (nI 1))) 1 (.int (nI 2))) 1 (.int (nI 3))) 1 (.int (nI 4))) 1 (.int (nI 5))) 1 (.int (nI 6))) 1 (.int (nI 7))))), ((r 0), aB E 4096 (upd (upd (upd (upd (upd (upd (upd (upd (fun _ => 0) 0 (vp_nar .byte ((a >>> ((nI 24) &&& 31)).toInt8.toInt32))) 1 (vp_nar .byte ((a >>> ((nI 16) &&& 31)).toInt8.toInt32))) 2 (vp_nar .byte ((a >>> ((nI 8) &&& 31)).toInt8.toInt32))) 3 (vp_nar .byte ((a >>> ((nI 0) &&& 31)).toInt8.toInt32))) 4 (vp_nar .byte ((b >>> ((nI 24) &&& 31)).toInt8.toInt32))) 5 (vp_nar .byte ((b >>> ((nI 16) &&& 31)).toInt8.toInt32))) 6 (vp_nar .byte ((b >>> ((nI 8) &&& 31)).toInt8.toInt32))) (nI 7).toNatClampNeg (vp_nar .byte ((b >>> ((nI 0) &&& 31)).toInt8.toInt32))))] := hD
  rw [nI_clamp (n := 7) (by decide)] at hP hD
  refine lv_aload_n hx hb dX12_feed_96 rfl (lv_at hl 2 rfl) ?_
  refine lv_dup hx hb dX12_feed_97 rfl ?_
  refine va_get (D := E.1) (ci := 12) (v := .int (nI 7)) (C := RX12) (T := TX12) (N := 116) hx hb hts iX12 hown hK hP 0 rfl rfl 1 (by decide) (hts _ wdF_RX12_258) (fun _ h9 => h9) ((mfs_get _ 1 (by decide)).trans (congrArg some (show (updG (updG (updG (updG (updG (updG (updG g 1 (.int (nI 1))) 1 (.int (nI 2))) 1 (.int (nI 3))) 1 (.int (nI 4))) 1 (.int (nI 5))) 1 (.int (nI 6))) 1 (.int (nI 7))) 1 = .int (nI 7) from rfl))) dX12_feed_98 ?_
  refine lv_iconst (v := nI 1) hx hb dX12_feed_101 (by decide) ?_
  refine lv_iadd hx hb dX12_feed_102 ?_
  rw [show ((nI 7) + (nI 1) : Int32) = nI 8 from by decide]
  refine va_put (D := E.1) (ci := 12) (v := .int (nI 8)) (ty := .int) (C := RX12) (T := TX12) (N := 116) hx hb hts iX12 tyX12 tyX12_ok nmX12 hown hK hP hD hS 0 rfl rfl 1 (by decide) (hts _ wdF_RX12_258) (fun _ h9 => h9) rfl (by decide +kernel) rfl rfl (by rw [mfs_len]; decide) dX12_feed_103 (fun H locs hP hD hS => ?_)
  have hP : va_P E.1 vwCl [(h0, ob 12 ((mfs (updG (updG (updG (updG (updG (updG (updG g 1 (.int (nI 1))) 1 (.int (nI 2))) 1 (.int (nI 3))) 1 (.int (nI 4))) 1 (.int (nI 5))) 1 (.int (nI 6))) 1 (.int (nI 7)))).set 1 (.int (nI 8)))), ((r 0), aB E 4096 (upd (upd (upd (upd (upd (upd (upd (upd (fun _ => 0) 0 (vp_nar .byte ((a >>> ((nI 24) &&& 31)).toInt8.toInt32))) 1 (vp_nar .byte ((a >>> ((nI 16) &&& 31)).toInt8.toInt32))) 2 (vp_nar .byte ((a >>> ((nI 8) &&& 31)).toInt8.toInt32))) 3 (vp_nar .byte ((a >>> ((nI 0) &&& 31)).toInt8.toInt32))) 4 (vp_nar .byte ((b >>> ((nI 24) &&& 31)).toInt8.toInt32))) 5 (vp_nar .byte ((b >>> ((nI 16) &&& 31)).toInt8.toInt32))) 6 (vp_nar .byte ((b >>> ((nI 8) &&& 31)).toInt8.toInt32))) 7 (vp_nar .byte ((b >>> ((nI 0) &&& 31)).toInt8.toInt32))))] H := hP
  have hD : va_D A [(h0, ob 12 ((mfs (updG (updG (updG (updG (updG (updG (updG g 1 (.int (nI 1))) 1 (.int (nI 2))) 1 (.int (nI 3))) 1 (.int (nI 4))) 1 (.int (nI 5))) 1 (.int (nI 6))) 1 (.int (nI 7)))).set 1 (.int (nI 8)))), ((r 0), aB E 4096 (upd (upd (upd (upd (upd (upd (upd (upd (fun _ => 0) 0 (vp_nar .byte ((a >>> ((nI 24) &&& 31)).toInt8.toInt32))) 1 (vp_nar .byte ((a >>> ((nI 16) &&& 31)).toInt8.toInt32))) 2 (vp_nar .byte ((a >>> ((nI 8) &&& 31)).toInt8.toInt32))) 3 (vp_nar .byte ((a >>> ((nI 0) &&& 31)).toInt8.toInt32))) 4 (vp_nar .byte ((b >>> ((nI 24) &&& 31)).toInt8.toInt32))) 5 (vp_nar .byte ((b >>> ((nI 16) &&& 31)).toInt8.toInt32))) 6 (vp_nar .byte ((b >>> ((nI 8) &&& 31)).toInt8.toInt32))) 7 (vp_nar .byte ((b >>> ((nI 0) &&& 31)).toInt8.toInt32))))] := hD
  rw [mfs_set _ 1 _ (by decide)] at hP hD
  refine lv_iinc (v := nI 8) (lv' := [(6, .int (nI 8)), (7, .int b), (0, .ref h0), (1, .int a), (2, .int b), (3, .int c9), (4, .int d), (5, .int e9)]) hx hb dX12_feed_106 hl (k := 1) rfl (by decide) (by decide) rfl (fun ls hl => ?_)
  refine lv_goto (tgt := 18) hx hb dX12_feed_109 (by decide) ?_
  refine lv_iload hx hb dX12_feed_18 (lv_at hl 0 rfl) ?_
  refine lv_bipush (v := nI 20) hx hb dX12_feed_20 (by decide) ?_
  refine lv_icmp_ge (tgt := 112) hx hb dX12_feed_22 (by decide) (fun c_966 => absurd c_966 (by decide)) (fun c_966 => ?_)
  refine lv_iload hx hb dX12_feed_25 (lv_at hl 0 rfl) ?_
  refine lv_iconst (v := nI 4) hx hb dX12_feed_27 (by decide) ?_
  refine lv_icmp_ge (tgt := 35) hx hb dX12_feed_28 (by decide) (fun c_967 => ?_) (fun c_967 => absurd (by decide) c_967)
  refine lv_iload hx hb dX12_feed_35 (lv_at hl 0 rfl) ?_
  refine lv_bipush (v := nI 8) hx hb dX12_feed_37 (by decide) ?_
  refine lv_icmp_ge (tgt := 46) hx hb dX12_feed_39 (by decide) (fun c_968 => ?_) (fun c_968 => absurd (by decide) c_968)
  refine lv_iload hx hb dX12_feed_46 (lv_at hl 0 rfl) ?_
  refine lv_bipush (v := nI 12) hx hb dX12_feed_48 (by decide) ?_
  refine lv_icmp_ge (tgt := 57) hx hb dX12_feed_50 (by decide) (fun c_969 => absurd c_969 (by decide)) (fun c_969 => ?_)
  refine lv_iload_n hx hb dX12_feed_53 rfl (lv_at hl 5 rfl) ?_
  refine lv_goto (tgt := 71) hx hb dX12_feed_54 (by decide) ?_
  refine lv_istore (lv' := [(7, .int c9), (6, .int (nI 8)), (0, .ref h0), (1, .int a), (2, .int b), (3, .int c9), (4, .int d), (5, .int e9)]) hx hb dX12_feed_71 hl (by decide) rfl (fun ls hl => ?_)
  refine lv_aload_n hx hb dX12_feed_73 rfl (lv_at hl 2 rfl) ?_
  refine va_get (D := E.1) (ci := 12) (v := .ref (r 0)) (C := RX12) (T := TX12) (N := 116) hx hb hts iX12 hown hK hP 0 rfl rfl 0 (by decide) (hts _ wdF_RX12_7) (fun _ h9 => h9) ((mfs_get _ 0 (by decide)).trans (congrArg some (show (updG (updG (updG (updG (updG (updG (updG (updG g 1 (.int (nI 1))) 1 (.int (nI 2))) 1 (.int (nI 3))) 1 (.int (nI 4))) 1 (.int (nI 5))) 1 (.int (nI 6))) 1 (.int (nI 7))) 1 (.int (nI 8))) 0 = .ref (r 0) from (hR 0 rfl)))) dX12_feed_74 ?_
  refine lv_aload_n hx hb dX12_feed_77 rfl (lv_at hl 2 rfl) ?_
  refine va_get (D := E.1) (ci := 12) (v := .int (nI 8)) (C := RX12) (T := TX12) (N := 116) hx hb hts iX12 hown hK hP 0 rfl rfl 1 (by decide) (hts _ wdF_RX12_258) (fun _ h9 => h9) ((mfs_get _ 1 (by decide)).trans (congrArg some (show (updG (updG (updG (updG (updG (updG (updG (updG g 1 (.int (nI 1))) 1 (.int (nI 2))) 1 (.int (nI 3))) 1 (.int (nI 4))) 1 (.int (nI 5))) 1 (.int (nI 6))) 1 (.int (nI 7))) 1 (.int (nI 8))) 1 = .int (nI 8) from rfl))) dX12_feed_78 ?_
  refine lv_iload hx hb dX12_feed_81 (lv_at hl 0 rfl) ?_
  refine lv_bipush (v := nI 24) hx hb dX12_feed_83 (by decide) ?_
  refine lv_bipush (v := nI 8) hx hb dX12_feed_85 (by decide) ?_
  refine lv_iload hx hb dX12_feed_87 (lv_at hl 1 rfl) ?_
  refine lv_iconst (v := nI 3) hx hb dX12_feed_89 (by decide) ?_
  refine lv_iand hx hb dX12_feed_90 ?_
  rw [show ((nI 8) &&& (nI 3) : Int32) = nI 0 from by decide]
  refine lv_imul hx hb dX12_feed_91 ?_
  rw [show ((nI 8) * (nI 0) : Int32) = nI 0 from by decide]
  refine lv_isub hx hb dX12_feed_92 ?_
  rw [show ((nI 24) - (nI 0) : Int32) = nI 24 from by decide]
  refine lv_ishr hx hb dX12_feed_93 ?_
  refine lv_i2b hx hb dX12_feed_94 rfl ?_
  refine va_bast hx hb hK hP hD hS 1 0 rfl rfl (vp_in_nI (by decide) (by decide)) dX12_feed_95 (fun H locs hP hD hS => ?_)
  have hP : va_P E.1 vwCl [(h0, ob 12 (mfs (updG (updG (updG (updG (updG (updG (updG (updG g 1 (.int (nI 1))) 1 (.int (nI 2))) 1 (.int (nI 3))) 1 (.int (nI 4))) 1 (.int (nI 5))) 1 (.int (nI 6))) 1 (.int (nI 7))) 1 (.int (nI 8))))), ((r 0), aB E 4096 (upd (upd (upd (upd (upd (upd (upd (upd (upd (fun _ => 0) 0 (vp_nar .byte ((a >>> ((nI 24) &&& 31)).toInt8.toInt32))) 1 (vp_nar .byte ((a >>> ((nI 16) &&& 31)).toInt8.toInt32))) 2 (vp_nar .byte ((a >>> ((nI 8) &&& 31)).toInt8.toInt32))) 3 (vp_nar .byte ((a >>> ((nI 0) &&& 31)).toInt8.toInt32))) 4 (vp_nar .byte ((b >>> ((nI 24) &&& 31)).toInt8.toInt32))) 5 (vp_nar .byte ((b >>> ((nI 16) &&& 31)).toInt8.toInt32))) 6 (vp_nar .byte ((b >>> ((nI 8) &&& 31)).toInt8.toInt32))) 7 (vp_nar .byte ((b >>> ((nI 0) &&& 31)).toInt8.toInt32))) (nI 8).toNatClampNeg (vp_nar .byte ((c9 >>> ((nI 24) &&& 31)).toInt8.toInt32))))] H := hP
  have hD : va_D A [(h0, ob 12 (mfs (updG (updG (updG (updG (updG (updG (updG (updG g 1 (.int (nI 1))) 1 (.int (nI 2))) 1 (.int (nI 3))) 1 (.int (nI 4))) 1 (.int (nI 5))) 1 (.int (nI 6))) 1 (.int (nI 7))) 1 (.int (nI 8))))), ((r 0), aB E 4096 (upd (upd (upd (upd (upd (upd (upd (upd (upd (fun _ => 0) 0 (vp_nar .byte ((a >>> ((nI 24) &&& 31)).toInt8.toInt32))) 1 (vp_nar .byte ((a >>> ((nI 16) &&& 31)).toInt8.toInt32))) 2 (vp_nar .byte ((a >>> ((nI 8) &&& 31)).toInt8.toInt32))) 3 (vp_nar .byte ((a >>> ((nI 0) &&& 31)).toInt8.toInt32))) 4 (vp_nar .byte ((b >>> ((nI 24) &&& 31)).toInt8.toInt32))) 5 (vp_nar .byte ((b >>> ((nI 16) &&& 31)).toInt8.toInt32))) 6 (vp_nar .byte ((b >>> ((nI 8) &&& 31)).toInt8.toInt32))) 7 (vp_nar .byte ((b >>> ((nI 0) &&& 31)).toInt8.toInt32))) (nI 8).toNatClampNeg (vp_nar .byte ((c9 >>> ((nI 24) &&& 31)).toInt8.toInt32))))] := hD
  rw [nI_clamp (n := 8) (by decide)] at hP hD
  refine lv_aload_n hx hb dX12_feed_96 rfl (lv_at hl 2 rfl) ?_
  refine lv_dup hx hb dX12_feed_97 rfl ?_
  refine va_get (D := E.1) (ci := 12) (v := .int (nI 8)) (C := RX12) (T := TX12) (N := 116) hx hb hts iX12 hown hK hP 0 rfl rfl 1 (by decide) (hts _ wdF_RX12_258) (fun _ h9 => h9) ((mfs_get _ 1 (by decide)).trans (congrArg some (show (updG (updG (updG (updG (updG (updG (updG (updG g 1 (.int (nI 1))) 1 (.int (nI 2))) 1 (.int (nI 3))) 1 (.int (nI 4))) 1 (.int (nI 5))) 1 (.int (nI 6))) 1 (.int (nI 7))) 1 (.int (nI 8))) 1 = .int (nI 8) from rfl))) dX12_feed_98 ?_
  refine lv_iconst (v := nI 1) hx hb dX12_feed_101 (by decide) ?_
  refine lv_iadd hx hb dX12_feed_102 ?_
  rw [show ((nI 8) + (nI 1) : Int32) = nI 9 from by decide]
  refine va_put (D := E.1) (ci := 12) (v := .int (nI 9)) (ty := .int) (C := RX12) (T := TX12) (N := 116) hx hb hts iX12 tyX12 tyX12_ok nmX12 hown hK hP hD hS 0 rfl rfl 1 (by decide) (hts _ wdF_RX12_258) (fun _ h9 => h9) rfl (by decide +kernel) rfl rfl (by rw [mfs_len]; decide) dX12_feed_103 (fun H locs hP hD hS => ?_)
  have hP : va_P E.1 vwCl [(h0, ob 12 ((mfs (updG (updG (updG (updG (updG (updG (updG (updG g 1 (.int (nI 1))) 1 (.int (nI 2))) 1 (.int (nI 3))) 1 (.int (nI 4))) 1 (.int (nI 5))) 1 (.int (nI 6))) 1 (.int (nI 7))) 1 (.int (nI 8)))).set 1 (.int (nI 9)))), ((r 0), aB E 4096 (upd (upd (upd (upd (upd (upd (upd (upd (upd (fun _ => 0) 0 (vp_nar .byte ((a >>> ((nI 24) &&& 31)).toInt8.toInt32))) 1 (vp_nar .byte ((a >>> ((nI 16) &&& 31)).toInt8.toInt32))) 2 (vp_nar .byte ((a >>> ((nI 8) &&& 31)).toInt8.toInt32))) 3 (vp_nar .byte ((a >>> ((nI 0) &&& 31)).toInt8.toInt32))) 4 (vp_nar .byte ((b >>> ((nI 24) &&& 31)).toInt8.toInt32))) 5 (vp_nar .byte ((b >>> ((nI 16) &&& 31)).toInt8.toInt32))) 6 (vp_nar .byte ((b >>> ((nI 8) &&& 31)).toInt8.toInt32))) 7 (vp_nar .byte ((b >>> ((nI 0) &&& 31)).toInt8.toInt32))) 8 (vp_nar .byte ((c9 >>> ((nI 24) &&& 31)).toInt8.toInt32))))] H := hP
  have hD : va_D A [(h0, ob 12 ((mfs (updG (updG (updG (updG (updG (updG (updG (updG g 1 (.int (nI 1))) 1 (.int (nI 2))) 1 (.int (nI 3))) 1 (.int (nI 4))) 1 (.int (nI 5))) 1 (.int (nI 6))) 1 (.int (nI 7))) 1 (.int (nI 8)))).set 1 (.int (nI 9)))), ((r 0), aB E 4096 (upd (upd (upd (upd (upd (upd (upd (upd (upd (fun _ => 0) 0 (vp_nar .byte ((a >>> ((nI 24) &&& 31)).toInt8.toInt32))) 1 (vp_nar .byte ((a >>> ((nI 16) &&& 31)).toInt8.toInt32))) 2 (vp_nar .byte ((a >>> ((nI 8) &&& 31)).toInt8.toInt32))) 3 (vp_nar .byte ((a >>> ((nI 0) &&& 31)).toInt8.toInt32))) 4 (vp_nar .byte ((b >>> ((nI 24) &&& 31)).toInt8.toInt32))) 5 (vp_nar .byte ((b >>> ((nI 16) &&& 31)).toInt8.toInt32))) 6 (vp_nar .byte ((b >>> ((nI 8) &&& 31)).toInt8.toInt32))) 7 (vp_nar .byte ((b >>> ((nI 0) &&& 31)).toInt8.toInt32))) 8 (vp_nar .byte ((c9 >>> ((nI 24) &&& 31)).toInt8.toInt32))))] := hD
  rw [mfs_set _ 1 _ (by decide)] at hP hD
  refine lv_iinc (v := nI 9) (lv' := [(6, .int (nI 9)), (7, .int c9), (0, .ref h0), (1, .int a), (2, .int b), (3, .int c9), (4, .int d), (5, .int e9)]) hx hb dX12_feed_106 hl (k := 1) rfl (by decide) (by decide) rfl (fun ls hl => ?_)
  refine lv_goto (tgt := 18) hx hb dX12_feed_109 (by decide) ?_
  refine lv_iload hx hb dX12_feed_18 (lv_at hl 0 rfl) ?_
  refine lv_bipush (v := nI 20) hx hb dX12_feed_20 (by decide) ?_
  refine lv_icmp_ge (tgt := 112) hx hb dX12_feed_22 (by decide) (fun c_970 => absurd c_970 (by decide)) (fun c_970 => ?_)
  refine lv_iload hx hb dX12_feed_25 (lv_at hl 0 rfl) ?_
  refine lv_iconst (v := nI 4) hx hb dX12_feed_27 (by decide) ?_
  refine lv_icmp_ge (tgt := 35) hx hb dX12_feed_28 (by decide) (fun c_971 => ?_) (fun c_971 => absurd (by decide) c_971)
  refine lv_iload hx hb dX12_feed_35 (lv_at hl 0 rfl) ?_
  refine lv_bipush (v := nI 8) hx hb dX12_feed_37 (by decide) ?_
  refine lv_icmp_ge (tgt := 46) hx hb dX12_feed_39 (by decide) (fun c_972 => ?_) (fun c_972 => absurd (by decide) c_972)
  refine lv_iload hx hb dX12_feed_46 (lv_at hl 0 rfl) ?_
  refine lv_bipush (v := nI 12) hx hb dX12_feed_48 (by decide) ?_
  refine lv_icmp_ge (tgt := 57) hx hb dX12_feed_50 (by decide) (fun c_973 => absurd c_973 (by decide)) (fun c_973 => ?_)
  refine lv_iload_n hx hb dX12_feed_53 rfl (lv_at hl 5 rfl) ?_
  refine lv_goto (tgt := 71) hx hb dX12_feed_54 (by decide) ?_
  refine lv_istore (lv' := [(7, .int c9), (6, .int (nI 9)), (0, .ref h0), (1, .int a), (2, .int b), (3, .int c9), (4, .int d), (5, .int e9)]) hx hb dX12_feed_71 hl (by decide) rfl (fun ls hl => ?_)
  refine lv_aload_n hx hb dX12_feed_73 rfl (lv_at hl 2 rfl) ?_
  refine va_get (D := E.1) (ci := 12) (v := .ref (r 0)) (C := RX12) (T := TX12) (N := 116) hx hb hts iX12 hown hK hP 0 rfl rfl 0 (by decide) (hts _ wdF_RX12_7) (fun _ h9 => h9) ((mfs_get _ 0 (by decide)).trans (congrArg some (show (updG (updG (updG (updG (updG (updG (updG (updG (updG g 1 (.int (nI 1))) 1 (.int (nI 2))) 1 (.int (nI 3))) 1 (.int (nI 4))) 1 (.int (nI 5))) 1 (.int (nI 6))) 1 (.int (nI 7))) 1 (.int (nI 8))) 1 (.int (nI 9))) 0 = .ref (r 0) from (hR 0 rfl)))) dX12_feed_74 ?_
  refine lv_aload_n hx hb dX12_feed_77 rfl (lv_at hl 2 rfl) ?_
  refine va_get (D := E.1) (ci := 12) (v := .int (nI 9)) (C := RX12) (T := TX12) (N := 116) hx hb hts iX12 hown hK hP 0 rfl rfl 1 (by decide) (hts _ wdF_RX12_258) (fun _ h9 => h9) ((mfs_get _ 1 (by decide)).trans (congrArg some (show (updG (updG (updG (updG (updG (updG (updG (updG (updG g 1 (.int (nI 1))) 1 (.int (nI 2))) 1 (.int (nI 3))) 1 (.int (nI 4))) 1 (.int (nI 5))) 1 (.int (nI 6))) 1 (.int (nI 7))) 1 (.int (nI 8))) 1 (.int (nI 9))) 1 = .int (nI 9) from rfl))) dX12_feed_78 ?_
  refine lv_iload hx hb dX12_feed_81 (lv_at hl 0 rfl) ?_
  refine lv_bipush (v := nI 24) hx hb dX12_feed_83 (by decide) ?_
  refine lv_bipush (v := nI 8) hx hb dX12_feed_85 (by decide) ?_
  refine lv_iload hx hb dX12_feed_87 (lv_at hl 1 rfl) ?_
  refine lv_iconst (v := nI 3) hx hb dX12_feed_89 (by decide) ?_
  refine lv_iand hx hb dX12_feed_90 ?_
  rw [show ((nI 9) &&& (nI 3) : Int32) = nI 1 from by decide]
  refine lv_imul hx hb dX12_feed_91 ?_
  rw [show ((nI 8) * (nI 1) : Int32) = nI 8 from by decide]
  refine lv_isub hx hb dX12_feed_92 ?_
  rw [show ((nI 24) - (nI 8) : Int32) = nI 16 from by decide]
  refine lv_ishr hx hb dX12_feed_93 ?_
  refine lv_i2b hx hb dX12_feed_94 rfl ?_
  refine va_bast hx hb hK hP hD hS 1 0 rfl rfl (vp_in_nI (by decide) (by decide)) dX12_feed_95 (fun H locs hP hD hS => ?_)
  have hP : va_P E.1 vwCl [(h0, ob 12 (mfs (updG (updG (updG (updG (updG (updG (updG (updG (updG g 1 (.int (nI 1))) 1 (.int (nI 2))) 1 (.int (nI 3))) 1 (.int (nI 4))) 1 (.int (nI 5))) 1 (.int (nI 6))) 1 (.int (nI 7))) 1 (.int (nI 8))) 1 (.int (nI 9))))), ((r 0), aB E 4096 (upd (upd (upd (upd (upd (upd (upd (upd (upd (upd (fun _ => 0) 0 (vp_nar .byte ((a >>> ((nI 24) &&& 31)).toInt8.toInt32))) 1 (vp_nar .byte ((a >>> ((nI 16) &&& 31)).toInt8.toInt32))) 2 (vp_nar .byte ((a >>> ((nI 8) &&& 31)).toInt8.toInt32))) 3 (vp_nar .byte ((a >>> ((nI 0) &&& 31)).toInt8.toInt32))) 4 (vp_nar .byte ((b >>> ((nI 24) &&& 31)).toInt8.toInt32))) 5 (vp_nar .byte ((b >>> ((nI 16) &&& 31)).toInt8.toInt32))) 6 (vp_nar .byte ((b >>> ((nI 8) &&& 31)).toInt8.toInt32))) 7 (vp_nar .byte ((b >>> ((nI 0) &&& 31)).toInt8.toInt32))) 8 (vp_nar .byte ((c9 >>> ((nI 24) &&& 31)).toInt8.toInt32))) (nI 9).toNatClampNeg (vp_nar .byte ((c9 >>> ((nI 16) &&& 31)).toInt8.toInt32))))] H := hP
  have hD : va_D A [(h0, ob 12 (mfs (updG (updG (updG (updG (updG (updG (updG (updG (updG g 1 (.int (nI 1))) 1 (.int (nI 2))) 1 (.int (nI 3))) 1 (.int (nI 4))) 1 (.int (nI 5))) 1 (.int (nI 6))) 1 (.int (nI 7))) 1 (.int (nI 8))) 1 (.int (nI 9))))), ((r 0), aB E 4096 (upd (upd (upd (upd (upd (upd (upd (upd (upd (upd (fun _ => 0) 0 (vp_nar .byte ((a >>> ((nI 24) &&& 31)).toInt8.toInt32))) 1 (vp_nar .byte ((a >>> ((nI 16) &&& 31)).toInt8.toInt32))) 2 (vp_nar .byte ((a >>> ((nI 8) &&& 31)).toInt8.toInt32))) 3 (vp_nar .byte ((a >>> ((nI 0) &&& 31)).toInt8.toInt32))) 4 (vp_nar .byte ((b >>> ((nI 24) &&& 31)).toInt8.toInt32))) 5 (vp_nar .byte ((b >>> ((nI 16) &&& 31)).toInt8.toInt32))) 6 (vp_nar .byte ((b >>> ((nI 8) &&& 31)).toInt8.toInt32))) 7 (vp_nar .byte ((b >>> ((nI 0) &&& 31)).toInt8.toInt32))) 8 (vp_nar .byte ((c9 >>> ((nI 24) &&& 31)).toInt8.toInt32))) (nI 9).toNatClampNeg (vp_nar .byte ((c9 >>> ((nI 16) &&& 31)).toInt8.toInt32))))] := hD
  rw [nI_clamp (n := 9) (by decide)] at hP hD
  refine lv_aload_n hx hb dX12_feed_96 rfl (lv_at hl 2 rfl) ?_
  refine lv_dup hx hb dX12_feed_97 rfl ?_
  refine va_get (D := E.1) (ci := 12) (v := .int (nI 9)) (C := RX12) (T := TX12) (N := 116) hx hb hts iX12 hown hK hP 0 rfl rfl 1 (by decide) (hts _ wdF_RX12_258) (fun _ h9 => h9) ((mfs_get _ 1 (by decide)).trans (congrArg some (show (updG (updG (updG (updG (updG (updG (updG (updG (updG g 1 (.int (nI 1))) 1 (.int (nI 2))) 1 (.int (nI 3))) 1 (.int (nI 4))) 1 (.int (nI 5))) 1 (.int (nI 6))) 1 (.int (nI 7))) 1 (.int (nI 8))) 1 (.int (nI 9))) 1 = .int (nI 9) from rfl))) dX12_feed_98 ?_
  refine lv_iconst (v := nI 1) hx hb dX12_feed_101 (by decide) ?_
  refine lv_iadd hx hb dX12_feed_102 ?_
  rw [show ((nI 9) + (nI 1) : Int32) = nI 10 from by decide]
  refine va_put (D := E.1) (ci := 12) (v := .int (nI 10)) (ty := .int) (C := RX12) (T := TX12) (N := 116) hx hb hts iX12 tyX12 tyX12_ok nmX12 hown hK hP hD hS 0 rfl rfl 1 (by decide) (hts _ wdF_RX12_258) (fun _ h9 => h9) rfl (by decide +kernel) rfl rfl (by rw [mfs_len]; decide) dX12_feed_103 (fun H locs hP hD hS => ?_)
  have hP : va_P E.1 vwCl [(h0, ob 12 ((mfs (updG (updG (updG (updG (updG (updG (updG (updG (updG g 1 (.int (nI 1))) 1 (.int (nI 2))) 1 (.int (nI 3))) 1 (.int (nI 4))) 1 (.int (nI 5))) 1 (.int (nI 6))) 1 (.int (nI 7))) 1 (.int (nI 8))) 1 (.int (nI 9)))).set 1 (.int (nI 10)))), ((r 0), aB E 4096 (upd (upd (upd (upd (upd (upd (upd (upd (upd (upd (fun _ => 0) 0 (vp_nar .byte ((a >>> ((nI 24) &&& 31)).toInt8.toInt32))) 1 (vp_nar .byte ((a >>> ((nI 16) &&& 31)).toInt8.toInt32))) 2 (vp_nar .byte ((a >>> ((nI 8) &&& 31)).toInt8.toInt32))) 3 (vp_nar .byte ((a >>> ((nI 0) &&& 31)).toInt8.toInt32))) 4 (vp_nar .byte ((b >>> ((nI 24) &&& 31)).toInt8.toInt32))) 5 (vp_nar .byte ((b >>> ((nI 16) &&& 31)).toInt8.toInt32))) 6 (vp_nar .byte ((b >>> ((nI 8) &&& 31)).toInt8.toInt32))) 7 (vp_nar .byte ((b >>> ((nI 0) &&& 31)).toInt8.toInt32))) 8 (vp_nar .byte ((c9 >>> ((nI 24) &&& 31)).toInt8.toInt32))) 9 (vp_nar .byte ((c9 >>> ((nI 16) &&& 31)).toInt8.toInt32))))] H := hP
  have hD : va_D A [(h0, ob 12 ((mfs (updG (updG (updG (updG (updG (updG (updG (updG (updG g 1 (.int (nI 1))) 1 (.int (nI 2))) 1 (.int (nI 3))) 1 (.int (nI 4))) 1 (.int (nI 5))) 1 (.int (nI 6))) 1 (.int (nI 7))) 1 (.int (nI 8))) 1 (.int (nI 9)))).set 1 (.int (nI 10)))), ((r 0), aB E 4096 (upd (upd (upd (upd (upd (upd (upd (upd (upd (upd (fun _ => 0) 0 (vp_nar .byte ((a >>> ((nI 24) &&& 31)).toInt8.toInt32))) 1 (vp_nar .byte ((a >>> ((nI 16) &&& 31)).toInt8.toInt32))) 2 (vp_nar .byte ((a >>> ((nI 8) &&& 31)).toInt8.toInt32))) 3 (vp_nar .byte ((a >>> ((nI 0) &&& 31)).toInt8.toInt32))) 4 (vp_nar .byte ((b >>> ((nI 24) &&& 31)).toInt8.toInt32))) 5 (vp_nar .byte ((b >>> ((nI 16) &&& 31)).toInt8.toInt32))) 6 (vp_nar .byte ((b >>> ((nI 8) &&& 31)).toInt8.toInt32))) 7 (vp_nar .byte ((b >>> ((nI 0) &&& 31)).toInt8.toInt32))) 8 (vp_nar .byte ((c9 >>> ((nI 24) &&& 31)).toInt8.toInt32))) 9 (vp_nar .byte ((c9 >>> ((nI 16) &&& 31)).toInt8.toInt32))))] := hD
  rw [mfs_set _ 1 _ (by decide)] at hP hD
  refine lv_iinc (v := nI 10) (lv' := [(6, .int (nI 10)), (7, .int c9), (0, .ref h0), (1, .int a), (2, .int b), (3, .int c9), (4, .int d), (5, .int e9)]) hx hb dX12_feed_106 hl (k := 1) rfl (by decide) (by decide) rfl (fun ls hl => ?_)
  refine lv_goto (tgt := 18) hx hb dX12_feed_109 (by decide) ?_
  refine lv_iload hx hb dX12_feed_18 (lv_at hl 0 rfl) ?_
  refine lv_bipush (v := nI 20) hx hb dX12_feed_20 (by decide) ?_
  refine lv_icmp_ge (tgt := 112) hx hb dX12_feed_22 (by decide) (fun c_974 => absurd c_974 (by decide)) (fun c_974 => ?_)
  refine lv_iload hx hb dX12_feed_25 (lv_at hl 0 rfl) ?_
  refine lv_iconst (v := nI 4) hx hb dX12_feed_27 (by decide) ?_
  refine lv_icmp_ge (tgt := 35) hx hb dX12_feed_28 (by decide) (fun c_975 => ?_) (fun c_975 => absurd (by decide) c_975)
  refine lv_iload hx hb dX12_feed_35 (lv_at hl 0 rfl) ?_
  refine lv_bipush (v := nI 8) hx hb dX12_feed_37 (by decide) ?_
  refine lv_icmp_ge (tgt := 46) hx hb dX12_feed_39 (by decide) (fun c_976 => ?_) (fun c_976 => absurd (by decide) c_976)
  refine lv_iload hx hb dX12_feed_46 (lv_at hl 0 rfl) ?_
  refine lv_bipush (v := nI 12) hx hb dX12_feed_48 (by decide) ?_
  refine lv_icmp_ge (tgt := 57) hx hb dX12_feed_50 (by decide) (fun c_977 => absurd c_977 (by decide)) (fun c_977 => ?_)
  refine lv_iload_n hx hb dX12_feed_53 rfl (lv_at hl 5 rfl) ?_
  refine lv_goto (tgt := 71) hx hb dX12_feed_54 (by decide) ?_
  refine lv_istore (lv' := [(7, .int c9), (6, .int (nI 10)), (0, .ref h0), (1, .int a), (2, .int b), (3, .int c9), (4, .int d), (5, .int e9)]) hx hb dX12_feed_71 hl (by decide) rfl (fun ls hl => ?_)
  refine lv_aload_n hx hb dX12_feed_73 rfl (lv_at hl 2 rfl) ?_
  refine va_get (D := E.1) (ci := 12) (v := .ref (r 0)) (C := RX12) (T := TX12) (N := 116) hx hb hts iX12 hown hK hP 0 rfl rfl 0 (by decide) (hts _ wdF_RX12_7) (fun _ h9 => h9) ((mfs_get _ 0 (by decide)).trans (congrArg some (show (updG (updG (updG (updG (updG (updG (updG (updG (updG (updG g 1 (.int (nI 1))) 1 (.int (nI 2))) 1 (.int (nI 3))) 1 (.int (nI 4))) 1 (.int (nI 5))) 1 (.int (nI 6))) 1 (.int (nI 7))) 1 (.int (nI 8))) 1 (.int (nI 9))) 1 (.int (nI 10))) 0 = .ref (r 0) from (hR 0 rfl)))) dX12_feed_74 ?_
  refine lv_aload_n hx hb dX12_feed_77 rfl (lv_at hl 2 rfl) ?_
  refine va_get (D := E.1) (ci := 12) (v := .int (nI 10)) (C := RX12) (T := TX12) (N := 116) hx hb hts iX12 hown hK hP 0 rfl rfl 1 (by decide) (hts _ wdF_RX12_258) (fun _ h9 => h9) ((mfs_get _ 1 (by decide)).trans (congrArg some (show (updG (updG (updG (updG (updG (updG (updG (updG (updG (updG g 1 (.int (nI 1))) 1 (.int (nI 2))) 1 (.int (nI 3))) 1 (.int (nI 4))) 1 (.int (nI 5))) 1 (.int (nI 6))) 1 (.int (nI 7))) 1 (.int (nI 8))) 1 (.int (nI 9))) 1 (.int (nI 10))) 1 = .int (nI 10) from rfl))) dX12_feed_78 ?_
  refine lv_iload hx hb dX12_feed_81 (lv_at hl 0 rfl) ?_
  refine lv_bipush (v := nI 24) hx hb dX12_feed_83 (by decide) ?_
  refine lv_bipush (v := nI 8) hx hb dX12_feed_85 (by decide) ?_
  refine lv_iload hx hb dX12_feed_87 (lv_at hl 1 rfl) ?_
  refine lv_iconst (v := nI 3) hx hb dX12_feed_89 (by decide) ?_
  refine lv_iand hx hb dX12_feed_90 ?_
  rw [show ((nI 10) &&& (nI 3) : Int32) = nI 2 from by decide]
  refine lv_imul hx hb dX12_feed_91 ?_
  rw [show ((nI 8) * (nI 2) : Int32) = nI 16 from by decide]
  refine lv_isub hx hb dX12_feed_92 ?_
  rw [show ((nI 24) - (nI 16) : Int32) = nI 8 from by decide]
  refine lv_ishr hx hb dX12_feed_93 ?_
  refine lv_i2b hx hb dX12_feed_94 rfl ?_
  refine va_bast hx hb hK hP hD hS 1 0 rfl rfl (vp_in_nI (by decide) (by decide)) dX12_feed_95 (fun H locs hP hD hS => ?_)
  have hP : va_P E.1 vwCl [(h0, ob 12 (mfs (updG (updG (updG (updG (updG (updG (updG (updG (updG (updG g 1 (.int (nI 1))) 1 (.int (nI 2))) 1 (.int (nI 3))) 1 (.int (nI 4))) 1 (.int (nI 5))) 1 (.int (nI 6))) 1 (.int (nI 7))) 1 (.int (nI 8))) 1 (.int (nI 9))) 1 (.int (nI 10))))), ((r 0), aB E 4096 (upd (upd (upd (upd (upd (upd (upd (upd (upd (upd (upd (fun _ => 0) 0 (vp_nar .byte ((a >>> ((nI 24) &&& 31)).toInt8.toInt32))) 1 (vp_nar .byte ((a >>> ((nI 16) &&& 31)).toInt8.toInt32))) 2 (vp_nar .byte ((a >>> ((nI 8) &&& 31)).toInt8.toInt32))) 3 (vp_nar .byte ((a >>> ((nI 0) &&& 31)).toInt8.toInt32))) 4 (vp_nar .byte ((b >>> ((nI 24) &&& 31)).toInt8.toInt32))) 5 (vp_nar .byte ((b >>> ((nI 16) &&& 31)).toInt8.toInt32))) 6 (vp_nar .byte ((b >>> ((nI 8) &&& 31)).toInt8.toInt32))) 7 (vp_nar .byte ((b >>> ((nI 0) &&& 31)).toInt8.toInt32))) 8 (vp_nar .byte ((c9 >>> ((nI 24) &&& 31)).toInt8.toInt32))) 9 (vp_nar .byte ((c9 >>> ((nI 16) &&& 31)).toInt8.toInt32))) (nI 10).toNatClampNeg (vp_nar .byte ((c9 >>> ((nI 8) &&& 31)).toInt8.toInt32))))] H := hP
  have hD : va_D A [(h0, ob 12 (mfs (updG (updG (updG (updG (updG (updG (updG (updG (updG (updG g 1 (.int (nI 1))) 1 (.int (nI 2))) 1 (.int (nI 3))) 1 (.int (nI 4))) 1 (.int (nI 5))) 1 (.int (nI 6))) 1 (.int (nI 7))) 1 (.int (nI 8))) 1 (.int (nI 9))) 1 (.int (nI 10))))), ((r 0), aB E 4096 (upd (upd (upd (upd (upd (upd (upd (upd (upd (upd (upd (fun _ => 0) 0 (vp_nar .byte ((a >>> ((nI 24) &&& 31)).toInt8.toInt32))) 1 (vp_nar .byte ((a >>> ((nI 16) &&& 31)).toInt8.toInt32))) 2 (vp_nar .byte ((a >>> ((nI 8) &&& 31)).toInt8.toInt32))) 3 (vp_nar .byte ((a >>> ((nI 0) &&& 31)).toInt8.toInt32))) 4 (vp_nar .byte ((b >>> ((nI 24) &&& 31)).toInt8.toInt32))) 5 (vp_nar .byte ((b >>> ((nI 16) &&& 31)).toInt8.toInt32))) 6 (vp_nar .byte ((b >>> ((nI 8) &&& 31)).toInt8.toInt32))) 7 (vp_nar .byte ((b >>> ((nI 0) &&& 31)).toInt8.toInt32))) 8 (vp_nar .byte ((c9 >>> ((nI 24) &&& 31)).toInt8.toInt32))) 9 (vp_nar .byte ((c9 >>> ((nI 16) &&& 31)).toInt8.toInt32))) (nI 10).toNatClampNeg (vp_nar .byte ((c9 >>> ((nI 8) &&& 31)).toInt8.toInt32))))] := hD
  rw [nI_clamp (n := 10) (by decide)] at hP hD
  refine lv_aload_n hx hb dX12_feed_96 rfl (lv_at hl 2 rfl) ?_
  refine lv_dup hx hb dX12_feed_97 rfl ?_
  refine va_get (D := E.1) (ci := 12) (v := .int (nI 10)) (C := RX12) (T := TX12) (N := 116) hx hb hts iX12 hown hK hP 0 rfl rfl 1 (by decide) (hts _ wdF_RX12_258) (fun _ h9 => h9) ((mfs_get _ 1 (by decide)).trans (congrArg some (show (updG (updG (updG (updG (updG (updG (updG (updG (updG (updG g 1 (.int (nI 1))) 1 (.int (nI 2))) 1 (.int (nI 3))) 1 (.int (nI 4))) 1 (.int (nI 5))) 1 (.int (nI 6))) 1 (.int (nI 7))) 1 (.int (nI 8))) 1 (.int (nI 9))) 1 (.int (nI 10))) 1 = .int (nI 10) from rfl))) dX12_feed_98 ?_
  refine lv_iconst (v := nI 1) hx hb dX12_feed_101 (by decide) ?_
  refine lv_iadd hx hb dX12_feed_102 ?_
  rw [show ((nI 10) + (nI 1) : Int32) = nI 11 from by decide]
  refine va_put (D := E.1) (ci := 12) (v := .int (nI 11)) (ty := .int) (C := RX12) (T := TX12) (N := 116) hx hb hts iX12 tyX12 tyX12_ok nmX12 hown hK hP hD hS 0 rfl rfl 1 (by decide) (hts _ wdF_RX12_258) (fun _ h9 => h9) rfl (by decide +kernel) rfl rfl (by rw [mfs_len]; decide) dX12_feed_103 (fun H locs hP hD hS => ?_)
  have hP : va_P E.1 vwCl [(h0, ob 12 ((mfs (updG (updG (updG (updG (updG (updG (updG (updG (updG (updG g 1 (.int (nI 1))) 1 (.int (nI 2))) 1 (.int (nI 3))) 1 (.int (nI 4))) 1 (.int (nI 5))) 1 (.int (nI 6))) 1 (.int (nI 7))) 1 (.int (nI 8))) 1 (.int (nI 9))) 1 (.int (nI 10)))).set 1 (.int (nI 11)))), ((r 0), aB E 4096 (upd (upd (upd (upd (upd (upd (upd (upd (upd (upd (upd (fun _ => 0) 0 (vp_nar .byte ((a >>> ((nI 24) &&& 31)).toInt8.toInt32))) 1 (vp_nar .byte ((a >>> ((nI 16) &&& 31)).toInt8.toInt32))) 2 (vp_nar .byte ((a >>> ((nI 8) &&& 31)).toInt8.toInt32))) 3 (vp_nar .byte ((a >>> ((nI 0) &&& 31)).toInt8.toInt32))) 4 (vp_nar .byte ((b >>> ((nI 24) &&& 31)).toInt8.toInt32))) 5 (vp_nar .byte ((b >>> ((nI 16) &&& 31)).toInt8.toInt32))) 6 (vp_nar .byte ((b >>> ((nI 8) &&& 31)).toInt8.toInt32))) 7 (vp_nar .byte ((b >>> ((nI 0) &&& 31)).toInt8.toInt32))) 8 (vp_nar .byte ((c9 >>> ((nI 24) &&& 31)).toInt8.toInt32))) 9 (vp_nar .byte ((c9 >>> ((nI 16) &&& 31)).toInt8.toInt32))) 10 (vp_nar .byte ((c9 >>> ((nI 8) &&& 31)).toInt8.toInt32))))] H := hP
  have hD : va_D A [(h0, ob 12 ((mfs (updG (updG (updG (updG (updG (updG (updG (updG (updG (updG g 1 (.int (nI 1))) 1 (.int (nI 2))) 1 (.int (nI 3))) 1 (.int (nI 4))) 1 (.int (nI 5))) 1 (.int (nI 6))) 1 (.int (nI 7))) 1 (.int (nI 8))) 1 (.int (nI 9))) 1 (.int (nI 10)))).set 1 (.int (nI 11)))), ((r 0), aB E 4096 (upd (upd (upd (upd (upd (upd (upd (upd (upd (upd (upd (fun _ => 0) 0 (vp_nar .byte ((a >>> ((nI 24) &&& 31)).toInt8.toInt32))) 1 (vp_nar .byte ((a >>> ((nI 16) &&& 31)).toInt8.toInt32))) 2 (vp_nar .byte ((a >>> ((nI 8) &&& 31)).toInt8.toInt32))) 3 (vp_nar .byte ((a >>> ((nI 0) &&& 31)).toInt8.toInt32))) 4 (vp_nar .byte ((b >>> ((nI 24) &&& 31)).toInt8.toInt32))) 5 (vp_nar .byte ((b >>> ((nI 16) &&& 31)).toInt8.toInt32))) 6 (vp_nar .byte ((b >>> ((nI 8) &&& 31)).toInt8.toInt32))) 7 (vp_nar .byte ((b >>> ((nI 0) &&& 31)).toInt8.toInt32))) 8 (vp_nar .byte ((c9 >>> ((nI 24) &&& 31)).toInt8.toInt32))) 9 (vp_nar .byte ((c9 >>> ((nI 16) &&& 31)).toInt8.toInt32))) 10 (vp_nar .byte ((c9 >>> ((nI 8) &&& 31)).toInt8.toInt32))))] := hD
  rw [mfs_set _ 1 _ (by decide)] at hP hD
  refine lv_iinc (v := nI 11) (lv' := [(6, .int (nI 11)), (7, .int c9), (0, .ref h0), (1, .int a), (2, .int b), (3, .int c9), (4, .int d), (5, .int e9)]) hx hb dX12_feed_106 hl (k := 1) rfl (by decide) (by decide) rfl (fun ls hl => ?_)
  refine lv_goto (tgt := 18) hx hb dX12_feed_109 (by decide) ?_
  refine lv_iload hx hb dX12_feed_18 (lv_at hl 0 rfl) ?_
  refine lv_bipush (v := nI 20) hx hb dX12_feed_20 (by decide) ?_
  refine lv_icmp_ge (tgt := 112) hx hb dX12_feed_22 (by decide) (fun c_978 => absurd c_978 (by decide)) (fun c_978 => ?_)
  refine lv_iload hx hb dX12_feed_25 (lv_at hl 0 rfl) ?_
  refine lv_iconst (v := nI 4) hx hb dX12_feed_27 (by decide) ?_
  refine lv_icmp_ge (tgt := 35) hx hb dX12_feed_28 (by decide) (fun c_979 => ?_) (fun c_979 => absurd (by decide) c_979)
  refine lv_iload hx hb dX12_feed_35 (lv_at hl 0 rfl) ?_
  refine lv_bipush (v := nI 8) hx hb dX12_feed_37 (by decide) ?_
  refine lv_icmp_ge (tgt := 46) hx hb dX12_feed_39 (by decide) (fun c_980 => ?_) (fun c_980 => absurd (by decide) c_980)
  refine lv_iload hx hb dX12_feed_46 (lv_at hl 0 rfl) ?_
  refine lv_bipush (v := nI 12) hx hb dX12_feed_48 (by decide) ?_
  refine lv_icmp_ge (tgt := 57) hx hb dX12_feed_50 (by decide) (fun c_981 => absurd c_981 (by decide)) (fun c_981 => ?_)
  refine lv_iload_n hx hb dX12_feed_53 rfl (lv_at hl 5 rfl) ?_
  refine lv_goto (tgt := 71) hx hb dX12_feed_54 (by decide) ?_
  refine lv_istore (lv' := [(7, .int c9), (6, .int (nI 11)), (0, .ref h0), (1, .int a), (2, .int b), (3, .int c9), (4, .int d), (5, .int e9)]) hx hb dX12_feed_71 hl (by decide) rfl (fun ls hl => ?_)
  refine lv_aload_n hx hb dX12_feed_73 rfl (lv_at hl 2 rfl) ?_
  refine va_get (D := E.1) (ci := 12) (v := .ref (r 0)) (C := RX12) (T := TX12) (N := 116) hx hb hts iX12 hown hK hP 0 rfl rfl 0 (by decide) (hts _ wdF_RX12_7) (fun _ h9 => h9) ((mfs_get _ 0 (by decide)).trans (congrArg some (show (updG (updG (updG (updG (updG (updG (updG (updG (updG (updG (updG g 1 (.int (nI 1))) 1 (.int (nI 2))) 1 (.int (nI 3))) 1 (.int (nI 4))) 1 (.int (nI 5))) 1 (.int (nI 6))) 1 (.int (nI 7))) 1 (.int (nI 8))) 1 (.int (nI 9))) 1 (.int (nI 10))) 1 (.int (nI 11))) 0 = .ref (r 0) from (hR 0 rfl)))) dX12_feed_74 ?_
  refine lv_aload_n hx hb dX12_feed_77 rfl (lv_at hl 2 rfl) ?_
  refine va_get (D := E.1) (ci := 12) (v := .int (nI 11)) (C := RX12) (T := TX12) (N := 116) hx hb hts iX12 hown hK hP 0 rfl rfl 1 (by decide) (hts _ wdF_RX12_258) (fun _ h9 => h9) ((mfs_get _ 1 (by decide)).trans (congrArg some (show (updG (updG (updG (updG (updG (updG (updG (updG (updG (updG (updG g 1 (.int (nI 1))) 1 (.int (nI 2))) 1 (.int (nI 3))) 1 (.int (nI 4))) 1 (.int (nI 5))) 1 (.int (nI 6))) 1 (.int (nI 7))) 1 (.int (nI 8))) 1 (.int (nI 9))) 1 (.int (nI 10))) 1 (.int (nI 11))) 1 = .int (nI 11) from rfl))) dX12_feed_78 ?_
  refine lv_iload hx hb dX12_feed_81 (lv_at hl 0 rfl) ?_
  refine lv_bipush (v := nI 24) hx hb dX12_feed_83 (by decide) ?_
  refine lv_bipush (v := nI 8) hx hb dX12_feed_85 (by decide) ?_
  refine lv_iload hx hb dX12_feed_87 (lv_at hl 1 rfl) ?_
  refine lv_iconst (v := nI 3) hx hb dX12_feed_89 (by decide) ?_
  refine lv_iand hx hb dX12_feed_90 ?_
  rw [show ((nI 11) &&& (nI 3) : Int32) = nI 3 from by decide]
  refine lv_imul hx hb dX12_feed_91 ?_
  rw [show ((nI 8) * (nI 3) : Int32) = nI 24 from by decide]
  refine lv_isub hx hb dX12_feed_92 ?_
  rw [show ((nI 24) - (nI 24) : Int32) = nI 0 from by decide]
  refine lv_ishr hx hb dX12_feed_93 ?_
  refine lv_i2b hx hb dX12_feed_94 rfl ?_
  refine va_bast hx hb hK hP hD hS 1 0 rfl rfl (vp_in_nI (by decide) (by decide)) dX12_feed_95 (fun H locs hP hD hS => ?_)
  have hP : va_P E.1 vwCl [(h0, ob 12 (mfs (updG (updG (updG (updG (updG (updG (updG (updG (updG (updG (updG g 1 (.int (nI 1))) 1 (.int (nI 2))) 1 (.int (nI 3))) 1 (.int (nI 4))) 1 (.int (nI 5))) 1 (.int (nI 6))) 1 (.int (nI 7))) 1 (.int (nI 8))) 1 (.int (nI 9))) 1 (.int (nI 10))) 1 (.int (nI 11))))), ((r 0), aB E 4096 (upd (upd (upd (upd (upd (upd (upd (upd (upd (upd (upd (upd (fun _ => 0) 0 (vp_nar .byte ((a >>> ((nI 24) &&& 31)).toInt8.toInt32))) 1 (vp_nar .byte ((a >>> ((nI 16) &&& 31)).toInt8.toInt32))) 2 (vp_nar .byte ((a >>> ((nI 8) &&& 31)).toInt8.toInt32))) 3 (vp_nar .byte ((a >>> ((nI 0) &&& 31)).toInt8.toInt32))) 4 (vp_nar .byte ((b >>> ((nI 24) &&& 31)).toInt8.toInt32))) 5 (vp_nar .byte ((b >>> ((nI 16) &&& 31)).toInt8.toInt32))) 6 (vp_nar .byte ((b >>> ((nI 8) &&& 31)).toInt8.toInt32))) 7 (vp_nar .byte ((b >>> ((nI 0) &&& 31)).toInt8.toInt32))) 8 (vp_nar .byte ((c9 >>> ((nI 24) &&& 31)).toInt8.toInt32))) 9 (vp_nar .byte ((c9 >>> ((nI 16) &&& 31)).toInt8.toInt32))) 10 (vp_nar .byte ((c9 >>> ((nI 8) &&& 31)).toInt8.toInt32))) (nI 11).toNatClampNeg (vp_nar .byte ((c9 >>> ((nI 0) &&& 31)).toInt8.toInt32))))] H := hP
  have hD : va_D A [(h0, ob 12 (mfs (updG (updG (updG (updG (updG (updG (updG (updG (updG (updG (updG g 1 (.int (nI 1))) 1 (.int (nI 2))) 1 (.int (nI 3))) 1 (.int (nI 4))) 1 (.int (nI 5))) 1 (.int (nI 6))) 1 (.int (nI 7))) 1 (.int (nI 8))) 1 (.int (nI 9))) 1 (.int (nI 10))) 1 (.int (nI 11))))), ((r 0), aB E 4096 (upd (upd (upd (upd (upd (upd (upd (upd (upd (upd (upd (upd (fun _ => 0) 0 (vp_nar .byte ((a >>> ((nI 24) &&& 31)).toInt8.toInt32))) 1 (vp_nar .byte ((a >>> ((nI 16) &&& 31)).toInt8.toInt32))) 2 (vp_nar .byte ((a >>> ((nI 8) &&& 31)).toInt8.toInt32))) 3 (vp_nar .byte ((a >>> ((nI 0) &&& 31)).toInt8.toInt32))) 4 (vp_nar .byte ((b >>> ((nI 24) &&& 31)).toInt8.toInt32))) 5 (vp_nar .byte ((b >>> ((nI 16) &&& 31)).toInt8.toInt32))) 6 (vp_nar .byte ((b >>> ((nI 8) &&& 31)).toInt8.toInt32))) 7 (vp_nar .byte ((b >>> ((nI 0) &&& 31)).toInt8.toInt32))) 8 (vp_nar .byte ((c9 >>> ((nI 24) &&& 31)).toInt8.toInt32))) 9 (vp_nar .byte ((c9 >>> ((nI 16) &&& 31)).toInt8.toInt32))) 10 (vp_nar .byte ((c9 >>> ((nI 8) &&& 31)).toInt8.toInt32))) (nI 11).toNatClampNeg (vp_nar .byte ((c9 >>> ((nI 0) &&& 31)).toInt8.toInt32))))] := hD
  rw [nI_clamp (n := 11) (by decide)] at hP hD
  refine lv_aload_n hx hb dX12_feed_96 rfl (lv_at hl 2 rfl) ?_
  refine lv_dup hx hb dX12_feed_97 rfl ?_
  refine va_get (D := E.1) (ci := 12) (v := .int (nI 11)) (C := RX12) (T := TX12) (N := 116) hx hb hts iX12 hown hK hP 0 rfl rfl 1 (by decide) (hts _ wdF_RX12_258) (fun _ h9 => h9) ((mfs_get _ 1 (by decide)).trans (congrArg some (show (updG (updG (updG (updG (updG (updG (updG (updG (updG (updG (updG g 1 (.int (nI 1))) 1 (.int (nI 2))) 1 (.int (nI 3))) 1 (.int (nI 4))) 1 (.int (nI 5))) 1 (.int (nI 6))) 1 (.int (nI 7))) 1 (.int (nI 8))) 1 (.int (nI 9))) 1 (.int (nI 10))) 1 (.int (nI 11))) 1 = .int (nI 11) from rfl))) dX12_feed_98 ?_
  refine lv_iconst (v := nI 1) hx hb dX12_feed_101 (by decide) ?_
  refine lv_iadd hx hb dX12_feed_102 ?_
  rw [show ((nI 11) + (nI 1) : Int32) = nI 12 from by decide]
  refine va_put (D := E.1) (ci := 12) (v := .int (nI 12)) (ty := .int) (C := RX12) (T := TX12) (N := 116) hx hb hts iX12 tyX12 tyX12_ok nmX12 hown hK hP hD hS 0 rfl rfl 1 (by decide) (hts _ wdF_RX12_258) (fun _ h9 => h9) rfl (by decide +kernel) rfl rfl (by rw [mfs_len]; decide) dX12_feed_103 (fun H locs hP hD hS => ?_)
  have hP : va_P E.1 vwCl [(h0, ob 12 ((mfs (updG (updG (updG (updG (updG (updG (updG (updG (updG (updG (updG g 1 (.int (nI 1))) 1 (.int (nI 2))) 1 (.int (nI 3))) 1 (.int (nI 4))) 1 (.int (nI 5))) 1 (.int (nI 6))) 1 (.int (nI 7))) 1 (.int (nI 8))) 1 (.int (nI 9))) 1 (.int (nI 10))) 1 (.int (nI 11)))).set 1 (.int (nI 12)))), ((r 0), aB E 4096 (upd (upd (upd (upd (upd (upd (upd (upd (upd (upd (upd (upd (fun _ => 0) 0 (vp_nar .byte ((a >>> ((nI 24) &&& 31)).toInt8.toInt32))) 1 (vp_nar .byte ((a >>> ((nI 16) &&& 31)).toInt8.toInt32))) 2 (vp_nar .byte ((a >>> ((nI 8) &&& 31)).toInt8.toInt32))) 3 (vp_nar .byte ((a >>> ((nI 0) &&& 31)).toInt8.toInt32))) 4 (vp_nar .byte ((b >>> ((nI 24) &&& 31)).toInt8.toInt32))) 5 (vp_nar .byte ((b >>> ((nI 16) &&& 31)).toInt8.toInt32))) 6 (vp_nar .byte ((b >>> ((nI 8) &&& 31)).toInt8.toInt32))) 7 (vp_nar .byte ((b >>> ((nI 0) &&& 31)).toInt8.toInt32))) 8 (vp_nar .byte ((c9 >>> ((nI 24) &&& 31)).toInt8.toInt32))) 9 (vp_nar .byte ((c9 >>> ((nI 16) &&& 31)).toInt8.toInt32))) 10 (vp_nar .byte ((c9 >>> ((nI 8) &&& 31)).toInt8.toInt32))) 11 (vp_nar .byte ((c9 >>> ((nI 0) &&& 31)).toInt8.toInt32))))] H := hP
  have hD : va_D A [(h0, ob 12 ((mfs (updG (updG (updG (updG (updG (updG (updG (updG (updG (updG (updG g 1 (.int (nI 1))) 1 (.int (nI 2))) 1 (.int (nI 3))) 1 (.int (nI 4))) 1 (.int (nI 5))) 1 (.int (nI 6))) 1 (.int (nI 7))) 1 (.int (nI 8))) 1 (.int (nI 9))) 1 (.int (nI 10))) 1 (.int (nI 11)))).set 1 (.int (nI 12)))), ((r 0), aB E 4096 (upd (upd (upd (upd (upd (upd (upd (upd (upd (upd (upd (upd (fun _ => 0) 0 (vp_nar .byte ((a >>> ((nI 24) &&& 31)).toInt8.toInt32))) 1 (vp_nar .byte ((a >>> ((nI 16) &&& 31)).toInt8.toInt32))) 2 (vp_nar .byte ((a >>> ((nI 8) &&& 31)).toInt8.toInt32))) 3 (vp_nar .byte ((a >>> ((nI 0) &&& 31)).toInt8.toInt32))) 4 (vp_nar .byte ((b >>> ((nI 24) &&& 31)).toInt8.toInt32))) 5 (vp_nar .byte ((b >>> ((nI 16) &&& 31)).toInt8.toInt32))) 6 (vp_nar .byte ((b >>> ((nI 8) &&& 31)).toInt8.toInt32))) 7 (vp_nar .byte ((b >>> ((nI 0) &&& 31)).toInt8.toInt32))) 8 (vp_nar .byte ((c9 >>> ((nI 24) &&& 31)).toInt8.toInt32))) 9 (vp_nar .byte ((c9 >>> ((nI 16) &&& 31)).toInt8.toInt32))) 10 (vp_nar .byte ((c9 >>> ((nI 8) &&& 31)).toInt8.toInt32))) 11 (vp_nar .byte ((c9 >>> ((nI 0) &&& 31)).toInt8.toInt32))))] := hD
  rw [mfs_set _ 1 _ (by decide)] at hP hD
  refine lv_iinc (v := nI 12) (lv' := [(6, .int (nI 12)), (7, .int c9), (0, .ref h0), (1, .int a), (2, .int b), (3, .int c9), (4, .int d), (5, .int e9)]) hx hb dX12_feed_106 hl (k := 1) rfl (by decide) (by decide) rfl (fun ls hl => ?_)
  refine lv_goto (tgt := 18) hx hb dX12_feed_109 (by decide) ?_
  refine lv_iload hx hb dX12_feed_18 (lv_at hl 0 rfl) ?_
  refine lv_bipush (v := nI 20) hx hb dX12_feed_20 (by decide) ?_
  refine lv_icmp_ge (tgt := 112) hx hb dX12_feed_22 (by decide) (fun c_982 => absurd c_982 (by decide)) (fun c_982 => ?_)
  refine lv_iload hx hb dX12_feed_25 (lv_at hl 0 rfl) ?_
  refine lv_iconst (v := nI 4) hx hb dX12_feed_27 (by decide) ?_
  refine lv_icmp_ge (tgt := 35) hx hb dX12_feed_28 (by decide) (fun c_983 => ?_) (fun c_983 => absurd (by decide) c_983)
  refine lv_iload hx hb dX12_feed_35 (lv_at hl 0 rfl) ?_
  refine lv_bipush (v := nI 8) hx hb dX12_feed_37 (by decide) ?_
  refine lv_icmp_ge (tgt := 46) hx hb dX12_feed_39 (by decide) (fun c_984 => ?_) (fun c_984 => absurd (by decide) c_984)
  refine lv_iload hx hb dX12_feed_46 (lv_at hl 0 rfl) ?_
  refine lv_bipush (v := nI 12) hx hb dX12_feed_48 (by decide) ?_
  refine lv_icmp_ge (tgt := 57) hx hb dX12_feed_50 (by decide) (fun c_985 => ?_) (fun c_985 => absurd (by decide) c_985)
  refine lv_iload hx hb dX12_feed_57 (lv_at hl 0 rfl) ?_
  refine lv_bipush (v := nI 16) hx hb dX12_feed_59 (by decide) ?_
  refine lv_icmp_ge (tgt := 69) hx hb dX12_feed_61 (by decide) (fun c_986 => absurd c_986 (by decide)) (fun c_986 => ?_)
  refine lv_iload hx hb dX12_feed_64 (lv_at hl 6 rfl) ?_
  refine lv_goto (tgt := 71) hx hb dX12_feed_66 (by decide) ?_
  refine lv_istore (lv' := [(7, .int d), (6, .int (nI 12)), (0, .ref h0), (1, .int a), (2, .int b), (3, .int c9), (4, .int d), (5, .int e9)]) hx hb dX12_feed_71 hl (by decide) rfl (fun ls hl => ?_)
  refine lv_aload_n hx hb dX12_feed_73 rfl (lv_at hl 2 rfl) ?_
  refine va_get (D := E.1) (ci := 12) (v := .ref (r 0)) (C := RX12) (T := TX12) (N := 116) hx hb hts iX12 hown hK hP 0 rfl rfl 0 (by decide) (hts _ wdF_RX12_7) (fun _ h9 => h9) ((mfs_get _ 0 (by decide)).trans (congrArg some (show (updG (updG (updG (updG (updG (updG (updG (updG (updG (updG (updG (updG g 1 (.int (nI 1))) 1 (.int (nI 2))) 1 (.int (nI 3))) 1 (.int (nI 4))) 1 (.int (nI 5))) 1 (.int (nI 6))) 1 (.int (nI 7))) 1 (.int (nI 8))) 1 (.int (nI 9))) 1 (.int (nI 10))) 1 (.int (nI 11))) 1 (.int (nI 12))) 0 = .ref (r 0) from (hR 0 rfl)))) dX12_feed_74 ?_
  refine lv_aload_n hx hb dX12_feed_77 rfl (lv_at hl 2 rfl) ?_
  refine va_get (D := E.1) (ci := 12) (v := .int (nI 12)) (C := RX12) (T := TX12) (N := 116) hx hb hts iX12 hown hK hP 0 rfl rfl 1 (by decide) (hts _ wdF_RX12_258) (fun _ h9 => h9) ((mfs_get _ 1 (by decide)).trans (congrArg some (show (updG (updG (updG (updG (updG (updG (updG (updG (updG (updG (updG (updG g 1 (.int (nI 1))) 1 (.int (nI 2))) 1 (.int (nI 3))) 1 (.int (nI 4))) 1 (.int (nI 5))) 1 (.int (nI 6))) 1 (.int (nI 7))) 1 (.int (nI 8))) 1 (.int (nI 9))) 1 (.int (nI 10))) 1 (.int (nI 11))) 1 (.int (nI 12))) 1 = .int (nI 12) from rfl))) dX12_feed_78 ?_
  refine lv_iload hx hb dX12_feed_81 (lv_at hl 0 rfl) ?_
  refine lv_bipush (v := nI 24) hx hb dX12_feed_83 (by decide) ?_
  refine lv_bipush (v := nI 8) hx hb dX12_feed_85 (by decide) ?_
  refine lv_iload hx hb dX12_feed_87 (lv_at hl 1 rfl) ?_
  refine lv_iconst (v := nI 3) hx hb dX12_feed_89 (by decide) ?_
  refine lv_iand hx hb dX12_feed_90 ?_
  rw [show ((nI 12) &&& (nI 3) : Int32) = nI 0 from by decide]
  refine lv_imul hx hb dX12_feed_91 ?_
  rw [show ((nI 8) * (nI 0) : Int32) = nI 0 from by decide]
  refine lv_isub hx hb dX12_feed_92 ?_
  rw [show ((nI 24) - (nI 0) : Int32) = nI 24 from by decide]
  refine lv_ishr hx hb dX12_feed_93 ?_
  refine lv_i2b hx hb dX12_feed_94 rfl ?_
  refine va_bast hx hb hK hP hD hS 1 0 rfl rfl (vp_in_nI (by decide) (by decide)) dX12_feed_95 (fun H locs hP hD hS => ?_)
  have hP : va_P E.1 vwCl [(h0, ob 12 (mfs (updG (updG (updG (updG (updG (updG (updG (updG (updG (updG (updG (updG g 1 (.int (nI 1))) 1 (.int (nI 2))) 1 (.int (nI 3))) 1 (.int (nI 4))) 1 (.int (nI 5))) 1 (.int (nI 6))) 1 (.int (nI 7))) 1 (.int (nI 8))) 1 (.int (nI 9))) 1 (.int (nI 10))) 1 (.int (nI 11))) 1 (.int (nI 12))))), ((r 0), aB E 4096 (upd (upd (upd (upd (upd (upd (upd (upd (upd (upd (upd (upd (upd (fun _ => 0) 0 (vp_nar .byte ((a >>> ((nI 24) &&& 31)).toInt8.toInt32))) 1 (vp_nar .byte ((a >>> ((nI 16) &&& 31)).toInt8.toInt32))) 2 (vp_nar .byte ((a >>> ((nI 8) &&& 31)).toInt8.toInt32))) 3 (vp_nar .byte ((a >>> ((nI 0) &&& 31)).toInt8.toInt32))) 4 (vp_nar .byte ((b >>> ((nI 24) &&& 31)).toInt8.toInt32))) 5 (vp_nar .byte ((b >>> ((nI 16) &&& 31)).toInt8.toInt32))) 6 (vp_nar .byte ((b >>> ((nI 8) &&& 31)).toInt8.toInt32))) 7 (vp_nar .byte ((b >>> ((nI 0) &&& 31)).toInt8.toInt32))) 8 (vp_nar .byte ((c9 >>> ((nI 24) &&& 31)).toInt8.toInt32))) 9 (vp_nar .byte ((c9 >>> ((nI 16) &&& 31)).toInt8.toInt32))) 10 (vp_nar .byte ((c9 >>> ((nI 8) &&& 31)).toInt8.toInt32))) 11 (vp_nar .byte ((c9 >>> ((nI 0) &&& 31)).toInt8.toInt32))) (nI 12).toNatClampNeg (vp_nar .byte ((d >>> ((nI 24) &&& 31)).toInt8.toInt32))))] H := hP
  have hD : va_D A [(h0, ob 12 (mfs (updG (updG (updG (updG (updG (updG (updG (updG (updG (updG (updG (updG g 1 (.int (nI 1))) 1 (.int (nI 2))) 1 (.int (nI 3))) 1 (.int (nI 4))) 1 (.int (nI 5))) 1 (.int (nI 6))) 1 (.int (nI 7))) 1 (.int (nI 8))) 1 (.int (nI 9))) 1 (.int (nI 10))) 1 (.int (nI 11))) 1 (.int (nI 12))))), ((r 0), aB E 4096 (upd (upd (upd (upd (upd (upd (upd (upd (upd (upd (upd (upd (upd (fun _ => 0) 0 (vp_nar .byte ((a >>> ((nI 24) &&& 31)).toInt8.toInt32))) 1 (vp_nar .byte ((a >>> ((nI 16) &&& 31)).toInt8.toInt32))) 2 (vp_nar .byte ((a >>> ((nI 8) &&& 31)).toInt8.toInt32))) 3 (vp_nar .byte ((a >>> ((nI 0) &&& 31)).toInt8.toInt32))) 4 (vp_nar .byte ((b >>> ((nI 24) &&& 31)).toInt8.toInt32))) 5 (vp_nar .byte ((b >>> ((nI 16) &&& 31)).toInt8.toInt32))) 6 (vp_nar .byte ((b >>> ((nI 8) &&& 31)).toInt8.toInt32))) 7 (vp_nar .byte ((b >>> ((nI 0) &&& 31)).toInt8.toInt32))) 8 (vp_nar .byte ((c9 >>> ((nI 24) &&& 31)).toInt8.toInt32))) 9 (vp_nar .byte ((c9 >>> ((nI 16) &&& 31)).toInt8.toInt32))) 10 (vp_nar .byte ((c9 >>> ((nI 8) &&& 31)).toInt8.toInt32))) 11 (vp_nar .byte ((c9 >>> ((nI 0) &&& 31)).toInt8.toInt32))) (nI 12).toNatClampNeg (vp_nar .byte ((d >>> ((nI 24) &&& 31)).toInt8.toInt32))))] := hD
  rw [nI_clamp (n := 12) (by decide)] at hP hD
  refine lv_aload_n hx hb dX12_feed_96 rfl (lv_at hl 2 rfl) ?_
  refine lv_dup hx hb dX12_feed_97 rfl ?_
  refine va_get (D := E.1) (ci := 12) (v := .int (nI 12)) (C := RX12) (T := TX12) (N := 116) hx hb hts iX12 hown hK hP 0 rfl rfl 1 (by decide) (hts _ wdF_RX12_258) (fun _ h9 => h9) ((mfs_get _ 1 (by decide)).trans (congrArg some (show (updG (updG (updG (updG (updG (updG (updG (updG (updG (updG (updG (updG g 1 (.int (nI 1))) 1 (.int (nI 2))) 1 (.int (nI 3))) 1 (.int (nI 4))) 1 (.int (nI 5))) 1 (.int (nI 6))) 1 (.int (nI 7))) 1 (.int (nI 8))) 1 (.int (nI 9))) 1 (.int (nI 10))) 1 (.int (nI 11))) 1 (.int (nI 12))) 1 = .int (nI 12) from rfl))) dX12_feed_98 ?_
  refine lv_iconst (v := nI 1) hx hb dX12_feed_101 (by decide) ?_
  refine lv_iadd hx hb dX12_feed_102 ?_
  rw [show ((nI 12) + (nI 1) : Int32) = nI 13 from by decide]
  refine va_put (D := E.1) (ci := 12) (v := .int (nI 13)) (ty := .int) (C := RX12) (T := TX12) (N := 116) hx hb hts iX12 tyX12 tyX12_ok nmX12 hown hK hP hD hS 0 rfl rfl 1 (by decide) (hts _ wdF_RX12_258) (fun _ h9 => h9) rfl (by decide +kernel) rfl rfl (by rw [mfs_len]; decide) dX12_feed_103 (fun H locs hP hD hS => ?_)
  have hP : va_P E.1 vwCl [(h0, ob 12 ((mfs (updG (updG (updG (updG (updG (updG (updG (updG (updG (updG (updG (updG g 1 (.int (nI 1))) 1 (.int (nI 2))) 1 (.int (nI 3))) 1 (.int (nI 4))) 1 (.int (nI 5))) 1 (.int (nI 6))) 1 (.int (nI 7))) 1 (.int (nI 8))) 1 (.int (nI 9))) 1 (.int (nI 10))) 1 (.int (nI 11))) 1 (.int (nI 12)))).set 1 (.int (nI 13)))), ((r 0), aB E 4096 (upd (upd (upd (upd (upd (upd (upd (upd (upd (upd (upd (upd (upd (fun _ => 0) 0 (vp_nar .byte ((a >>> ((nI 24) &&& 31)).toInt8.toInt32))) 1 (vp_nar .byte ((a >>> ((nI 16) &&& 31)).toInt8.toInt32))) 2 (vp_nar .byte ((a >>> ((nI 8) &&& 31)).toInt8.toInt32))) 3 (vp_nar .byte ((a >>> ((nI 0) &&& 31)).toInt8.toInt32))) 4 (vp_nar .byte ((b >>> ((nI 24) &&& 31)).toInt8.toInt32))) 5 (vp_nar .byte ((b >>> ((nI 16) &&& 31)).toInt8.toInt32))) 6 (vp_nar .byte ((b >>> ((nI 8) &&& 31)).toInt8.toInt32))) 7 (vp_nar .byte ((b >>> ((nI 0) &&& 31)).toInt8.toInt32))) 8 (vp_nar .byte ((c9 >>> ((nI 24) &&& 31)).toInt8.toInt32))) 9 (vp_nar .byte ((c9 >>> ((nI 16) &&& 31)).toInt8.toInt32))) 10 (vp_nar .byte ((c9 >>> ((nI 8) &&& 31)).toInt8.toInt32))) 11 (vp_nar .byte ((c9 >>> ((nI 0) &&& 31)).toInt8.toInt32))) 12 (vp_nar .byte ((d >>> ((nI 24) &&& 31)).toInt8.toInt32))))] H := hP
  have hD : va_D A [(h0, ob 12 ((mfs (updG (updG (updG (updG (updG (updG (updG (updG (updG (updG (updG (updG g 1 (.int (nI 1))) 1 (.int (nI 2))) 1 (.int (nI 3))) 1 (.int (nI 4))) 1 (.int (nI 5))) 1 (.int (nI 6))) 1 (.int (nI 7))) 1 (.int (nI 8))) 1 (.int (nI 9))) 1 (.int (nI 10))) 1 (.int (nI 11))) 1 (.int (nI 12)))).set 1 (.int (nI 13)))), ((r 0), aB E 4096 (upd (upd (upd (upd (upd (upd (upd (upd (upd (upd (upd (upd (upd (fun _ => 0) 0 (vp_nar .byte ((a >>> ((nI 24) &&& 31)).toInt8.toInt32))) 1 (vp_nar .byte ((a >>> ((nI 16) &&& 31)).toInt8.toInt32))) 2 (vp_nar .byte ((a >>> ((nI 8) &&& 31)).toInt8.toInt32))) 3 (vp_nar .byte ((a >>> ((nI 0) &&& 31)).toInt8.toInt32))) 4 (vp_nar .byte ((b >>> ((nI 24) &&& 31)).toInt8.toInt32))) 5 (vp_nar .byte ((b >>> ((nI 16) &&& 31)).toInt8.toInt32))) 6 (vp_nar .byte ((b >>> ((nI 8) &&& 31)).toInt8.toInt32))) 7 (vp_nar .byte ((b >>> ((nI 0) &&& 31)).toInt8.toInt32))) 8 (vp_nar .byte ((c9 >>> ((nI 24) &&& 31)).toInt8.toInt32))) 9 (vp_nar .byte ((c9 >>> ((nI 16) &&& 31)).toInt8.toInt32))) 10 (vp_nar .byte ((c9 >>> ((nI 8) &&& 31)).toInt8.toInt32))) 11 (vp_nar .byte ((c9 >>> ((nI 0) &&& 31)).toInt8.toInt32))) 12 (vp_nar .byte ((d >>> ((nI 24) &&& 31)).toInt8.toInt32))))] := hD
  rw [mfs_set _ 1 _ (by decide)] at hP hD
  refine lv_iinc (v := nI 13) (lv' := [(6, .int (nI 13)), (7, .int d), (0, .ref h0), (1, .int a), (2, .int b), (3, .int c9), (4, .int d), (5, .int e9)]) hx hb dX12_feed_106 hl (k := 1) rfl (by decide) (by decide) rfl (fun ls hl => ?_)
  refine lv_goto (tgt := 18) hx hb dX12_feed_109 (by decide) ?_
  refine lv_iload hx hb dX12_feed_18 (lv_at hl 0 rfl) ?_
  refine lv_bipush (v := nI 20) hx hb dX12_feed_20 (by decide) ?_
  refine lv_icmp_ge (tgt := 112) hx hb dX12_feed_22 (by decide) (fun c_987 => absurd c_987 (by decide)) (fun c_987 => ?_)
  refine lv_iload hx hb dX12_feed_25 (lv_at hl 0 rfl) ?_
  refine lv_iconst (v := nI 4) hx hb dX12_feed_27 (by decide) ?_
  refine lv_icmp_ge (tgt := 35) hx hb dX12_feed_28 (by decide) (fun c_988 => ?_) (fun c_988 => absurd (by decide) c_988)
  refine lv_iload hx hb dX12_feed_35 (lv_at hl 0 rfl) ?_
  refine lv_bipush (v := nI 8) hx hb dX12_feed_37 (by decide) ?_
  refine lv_icmp_ge (tgt := 46) hx hb dX12_feed_39 (by decide) (fun c_989 => ?_) (fun c_989 => absurd (by decide) c_989)
  refine lv_iload hx hb dX12_feed_46 (lv_at hl 0 rfl) ?_
  refine lv_bipush (v := nI 12) hx hb dX12_feed_48 (by decide) ?_
  refine lv_icmp_ge (tgt := 57) hx hb dX12_feed_50 (by decide) (fun c_990 => ?_) (fun c_990 => absurd (by decide) c_990)
  refine lv_iload hx hb dX12_feed_57 (lv_at hl 0 rfl) ?_
  refine lv_bipush (v := nI 16) hx hb dX12_feed_59 (by decide) ?_
  refine lv_icmp_ge (tgt := 69) hx hb dX12_feed_61 (by decide) (fun c_991 => absurd c_991 (by decide)) (fun c_991 => ?_)
  refine lv_iload hx hb dX12_feed_64 (lv_at hl 6 rfl) ?_
  refine lv_goto (tgt := 71) hx hb dX12_feed_66 (by decide) ?_
  refine lv_istore (lv' := [(7, .int d), (6, .int (nI 13)), (0, .ref h0), (1, .int a), (2, .int b), (3, .int c9), (4, .int d), (5, .int e9)]) hx hb dX12_feed_71 hl (by decide) rfl (fun ls hl => ?_)
  refine lv_aload_n hx hb dX12_feed_73 rfl (lv_at hl 2 rfl) ?_
  refine va_get (D := E.1) (ci := 12) (v := .ref (r 0)) (C := RX12) (T := TX12) (N := 116) hx hb hts iX12 hown hK hP 0 rfl rfl 0 (by decide) (hts _ wdF_RX12_7) (fun _ h9 => h9) ((mfs_get _ 0 (by decide)).trans (congrArg some (show (updG (updG (updG (updG (updG (updG (updG (updG (updG (updG (updG (updG (updG g 1 (.int (nI 1))) 1 (.int (nI 2))) 1 (.int (nI 3))) 1 (.int (nI 4))) 1 (.int (nI 5))) 1 (.int (nI 6))) 1 (.int (nI 7))) 1 (.int (nI 8))) 1 (.int (nI 9))) 1 (.int (nI 10))) 1 (.int (nI 11))) 1 (.int (nI 12))) 1 (.int (nI 13))) 0 = .ref (r 0) from (hR 0 rfl)))) dX12_feed_74 ?_
  refine lv_aload_n hx hb dX12_feed_77 rfl (lv_at hl 2 rfl) ?_
  refine va_get (D := E.1) (ci := 12) (v := .int (nI 13)) (C := RX12) (T := TX12) (N := 116) hx hb hts iX12 hown hK hP 0 rfl rfl 1 (by decide) (hts _ wdF_RX12_258) (fun _ h9 => h9) ((mfs_get _ 1 (by decide)).trans (congrArg some (show (updG (updG (updG (updG (updG (updG (updG (updG (updG (updG (updG (updG (updG g 1 (.int (nI 1))) 1 (.int (nI 2))) 1 (.int (nI 3))) 1 (.int (nI 4))) 1 (.int (nI 5))) 1 (.int (nI 6))) 1 (.int (nI 7))) 1 (.int (nI 8))) 1 (.int (nI 9))) 1 (.int (nI 10))) 1 (.int (nI 11))) 1 (.int (nI 12))) 1 (.int (nI 13))) 1 = .int (nI 13) from rfl))) dX12_feed_78 ?_
  refine lv_iload hx hb dX12_feed_81 (lv_at hl 0 rfl) ?_
  refine lv_bipush (v := nI 24) hx hb dX12_feed_83 (by decide) ?_
  refine lv_bipush (v := nI 8) hx hb dX12_feed_85 (by decide) ?_
  refine lv_iload hx hb dX12_feed_87 (lv_at hl 1 rfl) ?_
  refine lv_iconst (v := nI 3) hx hb dX12_feed_89 (by decide) ?_
  refine lv_iand hx hb dX12_feed_90 ?_
  rw [show ((nI 13) &&& (nI 3) : Int32) = nI 1 from by decide]
  refine lv_imul hx hb dX12_feed_91 ?_
  rw [show ((nI 8) * (nI 1) : Int32) = nI 8 from by decide]
  refine lv_isub hx hb dX12_feed_92 ?_
  rw [show ((nI 24) - (nI 8) : Int32) = nI 16 from by decide]
  refine lv_ishr hx hb dX12_feed_93 ?_
  refine lv_i2b hx hb dX12_feed_94 rfl ?_
  refine va_bast hx hb hK hP hD hS 1 0 rfl rfl (vp_in_nI (by decide) (by decide)) dX12_feed_95 (fun H locs hP hD hS => ?_)
  have hP : va_P E.1 vwCl [(h0, ob 12 (mfs (updG (updG (updG (updG (updG (updG (updG (updG (updG (updG (updG (updG (updG g 1 (.int (nI 1))) 1 (.int (nI 2))) 1 (.int (nI 3))) 1 (.int (nI 4))) 1 (.int (nI 5))) 1 (.int (nI 6))) 1 (.int (nI 7))) 1 (.int (nI 8))) 1 (.int (nI 9))) 1 (.int (nI 10))) 1 (.int (nI 11))) 1 (.int (nI 12))) 1 (.int (nI 13))))), ((r 0), aB E 4096 (upd (upd (upd (upd (upd (upd (upd (upd (upd (upd (upd (upd (upd (upd (fun _ => 0) 0 (vp_nar .byte ((a >>> ((nI 24) &&& 31)).toInt8.toInt32))) 1 (vp_nar .byte ((a >>> ((nI 16) &&& 31)).toInt8.toInt32))) 2 (vp_nar .byte ((a >>> ((nI 8) &&& 31)).toInt8.toInt32))) 3 (vp_nar .byte ((a >>> ((nI 0) &&& 31)).toInt8.toInt32))) 4 (vp_nar .byte ((b >>> ((nI 24) &&& 31)).toInt8.toInt32))) 5 (vp_nar .byte ((b >>> ((nI 16) &&& 31)).toInt8.toInt32))) 6 (vp_nar .byte ((b >>> ((nI 8) &&& 31)).toInt8.toInt32))) 7 (vp_nar .byte ((b >>> ((nI 0) &&& 31)).toInt8.toInt32))) 8 (vp_nar .byte ((c9 >>> ((nI 24) &&& 31)).toInt8.toInt32))) 9 (vp_nar .byte ((c9 >>> ((nI 16) &&& 31)).toInt8.toInt32))) 10 (vp_nar .byte ((c9 >>> ((nI 8) &&& 31)).toInt8.toInt32))) 11 (vp_nar .byte ((c9 >>> ((nI 0) &&& 31)).toInt8.toInt32))) 12 (vp_nar .byte ((d >>> ((nI 24) &&& 31)).toInt8.toInt32))) (nI 13).toNatClampNeg (vp_nar .byte ((d >>> ((nI 16) &&& 31)).toInt8.toInt32))))] H := hP
  have hD : va_D A [(h0, ob 12 (mfs (updG (updG (updG (updG (updG (updG (updG (updG (updG (updG (updG (updG (updG g 1 (.int (nI 1))) 1 (.int (nI 2))) 1 (.int (nI 3))) 1 (.int (nI 4))) 1 (.int (nI 5))) 1 (.int (nI 6))) 1 (.int (nI 7))) 1 (.int (nI 8))) 1 (.int (nI 9))) 1 (.int (nI 10))) 1 (.int (nI 11))) 1 (.int (nI 12))) 1 (.int (nI 13))))), ((r 0), aB E 4096 (upd (upd (upd (upd (upd (upd (upd (upd (upd (upd (upd (upd (upd (upd (fun _ => 0) 0 (vp_nar .byte ((a >>> ((nI 24) &&& 31)).toInt8.toInt32))) 1 (vp_nar .byte ((a >>> ((nI 16) &&& 31)).toInt8.toInt32))) 2 (vp_nar .byte ((a >>> ((nI 8) &&& 31)).toInt8.toInt32))) 3 (vp_nar .byte ((a >>> ((nI 0) &&& 31)).toInt8.toInt32))) 4 (vp_nar .byte ((b >>> ((nI 24) &&& 31)).toInt8.toInt32))) 5 (vp_nar .byte ((b >>> ((nI 16) &&& 31)).toInt8.toInt32))) 6 (vp_nar .byte ((b >>> ((nI 8) &&& 31)).toInt8.toInt32))) 7 (vp_nar .byte ((b >>> ((nI 0) &&& 31)).toInt8.toInt32))) 8 (vp_nar .byte ((c9 >>> ((nI 24) &&& 31)).toInt8.toInt32))) 9 (vp_nar .byte ((c9 >>> ((nI 16) &&& 31)).toInt8.toInt32))) 10 (vp_nar .byte ((c9 >>> ((nI 8) &&& 31)).toInt8.toInt32))) 11 (vp_nar .byte ((c9 >>> ((nI 0) &&& 31)).toInt8.toInt32))) 12 (vp_nar .byte ((d >>> ((nI 24) &&& 31)).toInt8.toInt32))) (nI 13).toNatClampNeg (vp_nar .byte ((d >>> ((nI 16) &&& 31)).toInt8.toInt32))))] := hD
  rw [nI_clamp (n := 13) (by decide)] at hP hD
  refine lv_aload_n hx hb dX12_feed_96 rfl (lv_at hl 2 rfl) ?_
  refine lv_dup hx hb dX12_feed_97 rfl ?_
  refine va_get (D := E.1) (ci := 12) (v := .int (nI 13)) (C := RX12) (T := TX12) (N := 116) hx hb hts iX12 hown hK hP 0 rfl rfl 1 (by decide) (hts _ wdF_RX12_258) (fun _ h9 => h9) ((mfs_get _ 1 (by decide)).trans (congrArg some (show (updG (updG (updG (updG (updG (updG (updG (updG (updG (updG (updG (updG (updG g 1 (.int (nI 1))) 1 (.int (nI 2))) 1 (.int (nI 3))) 1 (.int (nI 4))) 1 (.int (nI 5))) 1 (.int (nI 6))) 1 (.int (nI 7))) 1 (.int (nI 8))) 1 (.int (nI 9))) 1 (.int (nI 10))) 1 (.int (nI 11))) 1 (.int (nI 12))) 1 (.int (nI 13))) 1 = .int (nI 13) from rfl))) dX12_feed_98 ?_
  refine lv_iconst (v := nI 1) hx hb dX12_feed_101 (by decide) ?_
  refine lv_iadd hx hb dX12_feed_102 ?_
  rw [show ((nI 13) + (nI 1) : Int32) = nI 14 from by decide]
  refine va_put (D := E.1) (ci := 12) (v := .int (nI 14)) (ty := .int) (C := RX12) (T := TX12) (N := 116) hx hb hts iX12 tyX12 tyX12_ok nmX12 hown hK hP hD hS 0 rfl rfl 1 (by decide) (hts _ wdF_RX12_258) (fun _ h9 => h9) rfl (by decide +kernel) rfl rfl (by rw [mfs_len]; decide) dX12_feed_103 (fun H locs hP hD hS => ?_)
  have hP : va_P E.1 vwCl [(h0, ob 12 ((mfs (updG (updG (updG (updG (updG (updG (updG (updG (updG (updG (updG (updG (updG g 1 (.int (nI 1))) 1 (.int (nI 2))) 1 (.int (nI 3))) 1 (.int (nI 4))) 1 (.int (nI 5))) 1 (.int (nI 6))) 1 (.int (nI 7))) 1 (.int (nI 8))) 1 (.int (nI 9))) 1 (.int (nI 10))) 1 (.int (nI 11))) 1 (.int (nI 12))) 1 (.int (nI 13)))).set 1 (.int (nI 14)))), ((r 0), aB E 4096 (upd (upd (upd (upd (upd (upd (upd (upd (upd (upd (upd (upd (upd (upd (fun _ => 0) 0 (vp_nar .byte ((a >>> ((nI 24) &&& 31)).toInt8.toInt32))) 1 (vp_nar .byte ((a >>> ((nI 16) &&& 31)).toInt8.toInt32))) 2 (vp_nar .byte ((a >>> ((nI 8) &&& 31)).toInt8.toInt32))) 3 (vp_nar .byte ((a >>> ((nI 0) &&& 31)).toInt8.toInt32))) 4 (vp_nar .byte ((b >>> ((nI 24) &&& 31)).toInt8.toInt32))) 5 (vp_nar .byte ((b >>> ((nI 16) &&& 31)).toInt8.toInt32))) 6 (vp_nar .byte ((b >>> ((nI 8) &&& 31)).toInt8.toInt32))) 7 (vp_nar .byte ((b >>> ((nI 0) &&& 31)).toInt8.toInt32))) 8 (vp_nar .byte ((c9 >>> ((nI 24) &&& 31)).toInt8.toInt32))) 9 (vp_nar .byte ((c9 >>> ((nI 16) &&& 31)).toInt8.toInt32))) 10 (vp_nar .byte ((c9 >>> ((nI 8) &&& 31)).toInt8.toInt32))) 11 (vp_nar .byte ((c9 >>> ((nI 0) &&& 31)).toInt8.toInt32))) 12 (vp_nar .byte ((d >>> ((nI 24) &&& 31)).toInt8.toInt32))) 13 (vp_nar .byte ((d >>> ((nI 16) &&& 31)).toInt8.toInt32))))] H := hP
  have hD : va_D A [(h0, ob 12 ((mfs (updG (updG (updG (updG (updG (updG (updG (updG (updG (updG (updG (updG (updG g 1 (.int (nI 1))) 1 (.int (nI 2))) 1 (.int (nI 3))) 1 (.int (nI 4))) 1 (.int (nI 5))) 1 (.int (nI 6))) 1 (.int (nI 7))) 1 (.int (nI 8))) 1 (.int (nI 9))) 1 (.int (nI 10))) 1 (.int (nI 11))) 1 (.int (nI 12))) 1 (.int (nI 13)))).set 1 (.int (nI 14)))), ((r 0), aB E 4096 (upd (upd (upd (upd (upd (upd (upd (upd (upd (upd (upd (upd (upd (upd (fun _ => 0) 0 (vp_nar .byte ((a >>> ((nI 24) &&& 31)).toInt8.toInt32))) 1 (vp_nar .byte ((a >>> ((nI 16) &&& 31)).toInt8.toInt32))) 2 (vp_nar .byte ((a >>> ((nI 8) &&& 31)).toInt8.toInt32))) 3 (vp_nar .byte ((a >>> ((nI 0) &&& 31)).toInt8.toInt32))) 4 (vp_nar .byte ((b >>> ((nI 24) &&& 31)).toInt8.toInt32))) 5 (vp_nar .byte ((b >>> ((nI 16) &&& 31)).toInt8.toInt32))) 6 (vp_nar .byte ((b >>> ((nI 8) &&& 31)).toInt8.toInt32))) 7 (vp_nar .byte ((b >>> ((nI 0) &&& 31)).toInt8.toInt32))) 8 (vp_nar .byte ((c9 >>> ((nI 24) &&& 31)).toInt8.toInt32))) 9 (vp_nar .byte ((c9 >>> ((nI 16) &&& 31)).toInt8.toInt32))) 10 (vp_nar .byte ((c9 >>> ((nI 8) &&& 31)).toInt8.toInt32))) 11 (vp_nar .byte ((c9 >>> ((nI 0) &&& 31)).toInt8.toInt32))) 12 (vp_nar .byte ((d >>> ((nI 24) &&& 31)).toInt8.toInt32))) 13 (vp_nar .byte ((d >>> ((nI 16) &&& 31)).toInt8.toInt32))))] := hD
  rw [mfs_set _ 1 _ (by decide)] at hP hD
  refine lv_iinc (v := nI 14) (lv' := [(6, .int (nI 14)), (7, .int d), (0, .ref h0), (1, .int a), (2, .int b), (3, .int c9), (4, .int d), (5, .int e9)]) hx hb dX12_feed_106 hl (k := 1) rfl (by decide) (by decide) rfl (fun ls hl => ?_)
  refine lv_goto (tgt := 18) hx hb dX12_feed_109 (by decide) ?_
  refine lv_iload hx hb dX12_feed_18 (lv_at hl 0 rfl) ?_
  refine lv_bipush (v := nI 20) hx hb dX12_feed_20 (by decide) ?_
  refine lv_icmp_ge (tgt := 112) hx hb dX12_feed_22 (by decide) (fun c_992 => absurd c_992 (by decide)) (fun c_992 => ?_)
  refine lv_iload hx hb dX12_feed_25 (lv_at hl 0 rfl) ?_
  refine lv_iconst (v := nI 4) hx hb dX12_feed_27 (by decide) ?_
  refine lv_icmp_ge (tgt := 35) hx hb dX12_feed_28 (by decide) (fun c_993 => ?_) (fun c_993 => absurd (by decide) c_993)
  refine lv_iload hx hb dX12_feed_35 (lv_at hl 0 rfl) ?_
  refine lv_bipush (v := nI 8) hx hb dX12_feed_37 (by decide) ?_
  refine lv_icmp_ge (tgt := 46) hx hb dX12_feed_39 (by decide) (fun c_994 => ?_) (fun c_994 => absurd (by decide) c_994)
  refine lv_iload hx hb dX12_feed_46 (lv_at hl 0 rfl) ?_
  refine lv_bipush (v := nI 12) hx hb dX12_feed_48 (by decide) ?_
  refine lv_icmp_ge (tgt := 57) hx hb dX12_feed_50 (by decide) (fun c_995 => ?_) (fun c_995 => absurd (by decide) c_995)
  refine lv_iload hx hb dX12_feed_57 (lv_at hl 0 rfl) ?_
  refine lv_bipush (v := nI 16) hx hb dX12_feed_59 (by decide) ?_
  refine lv_icmp_ge (tgt := 69) hx hb dX12_feed_61 (by decide) (fun c_996 => absurd c_996 (by decide)) (fun c_996 => ?_)
  refine lv_iload hx hb dX12_feed_64 (lv_at hl 6 rfl) ?_
  refine lv_goto (tgt := 71) hx hb dX12_feed_66 (by decide) ?_
  refine lv_istore (lv' := [(7, .int d), (6, .int (nI 14)), (0, .ref h0), (1, .int a), (2, .int b), (3, .int c9), (4, .int d), (5, .int e9)]) hx hb dX12_feed_71 hl (by decide) rfl (fun ls hl => ?_)
  refine lv_aload_n hx hb dX12_feed_73 rfl (lv_at hl 2 rfl) ?_
  refine va_get (D := E.1) (ci := 12) (v := .ref (r 0)) (C := RX12) (T := TX12) (N := 116) hx hb hts iX12 hown hK hP 0 rfl rfl 0 (by decide) (hts _ wdF_RX12_7) (fun _ h9 => h9) ((mfs_get _ 0 (by decide)).trans (congrArg some (show (updG (updG (updG (updG (updG (updG (updG (updG (updG (updG (updG (updG (updG (updG g 1 (.int (nI 1))) 1 (.int (nI 2))) 1 (.int (nI 3))) 1 (.int (nI 4))) 1 (.int (nI 5))) 1 (.int (nI 6))) 1 (.int (nI 7))) 1 (.int (nI 8))) 1 (.int (nI 9))) 1 (.int (nI 10))) 1 (.int (nI 11))) 1 (.int (nI 12))) 1 (.int (nI 13))) 1 (.int (nI 14))) 0 = .ref (r 0) from (hR 0 rfl)))) dX12_feed_74 ?_
  refine lv_aload_n hx hb dX12_feed_77 rfl (lv_at hl 2 rfl) ?_
  refine va_get (D := E.1) (ci := 12) (v := .int (nI 14)) (C := RX12) (T := TX12) (N := 116) hx hb hts iX12 hown hK hP 0 rfl rfl 1 (by decide) (hts _ wdF_RX12_258) (fun _ h9 => h9) ((mfs_get _ 1 (by decide)).trans (congrArg some (show (updG (updG (updG (updG (updG (updG (updG (updG (updG (updG (updG (updG (updG (updG g 1 (.int (nI 1))) 1 (.int (nI 2))) 1 (.int (nI 3))) 1 (.int (nI 4))) 1 (.int (nI 5))) 1 (.int (nI 6))) 1 (.int (nI 7))) 1 (.int (nI 8))) 1 (.int (nI 9))) 1 (.int (nI 10))) 1 (.int (nI 11))) 1 (.int (nI 12))) 1 (.int (nI 13))) 1 (.int (nI 14))) 1 = .int (nI 14) from rfl))) dX12_feed_78 ?_
  refine lv_iload hx hb dX12_feed_81 (lv_at hl 0 rfl) ?_
  refine lv_bipush (v := nI 24) hx hb dX12_feed_83 (by decide) ?_
  refine lv_bipush (v := nI 8) hx hb dX12_feed_85 (by decide) ?_
  refine lv_iload hx hb dX12_feed_87 (lv_at hl 1 rfl) ?_
  refine lv_iconst (v := nI 3) hx hb dX12_feed_89 (by decide) ?_
  refine lv_iand hx hb dX12_feed_90 ?_
  rw [show ((nI 14) &&& (nI 3) : Int32) = nI 2 from by decide]
  refine lv_imul hx hb dX12_feed_91 ?_
  rw [show ((nI 8) * (nI 2) : Int32) = nI 16 from by decide]
  refine lv_isub hx hb dX12_feed_92 ?_
  rw [show ((nI 24) - (nI 16) : Int32) = nI 8 from by decide]
  refine lv_ishr hx hb dX12_feed_93 ?_
  refine lv_i2b hx hb dX12_feed_94 rfl ?_
  refine va_bast hx hb hK hP hD hS 1 0 rfl rfl (vp_in_nI (by decide) (by decide)) dX12_feed_95 (fun H locs hP hD hS => ?_)
  have hP : va_P E.1 vwCl [(h0, ob 12 (mfs (updG (updG (updG (updG (updG (updG (updG (updG (updG (updG (updG (updG (updG (updG g 1 (.int (nI 1))) 1 (.int (nI 2))) 1 (.int (nI 3))) 1 (.int (nI 4))) 1 (.int (nI 5))) 1 (.int (nI 6))) 1 (.int (nI 7))) 1 (.int (nI 8))) 1 (.int (nI 9))) 1 (.int (nI 10))) 1 (.int (nI 11))) 1 (.int (nI 12))) 1 (.int (nI 13))) 1 (.int (nI 14))))), ((r 0), aB E 4096 (upd (upd (upd (upd (upd (upd (upd (upd (upd (upd (upd (upd (upd (upd (upd (fun _ => 0) 0 (vp_nar .byte ((a >>> ((nI 24) &&& 31)).toInt8.toInt32))) 1 (vp_nar .byte ((a >>> ((nI 16) &&& 31)).toInt8.toInt32))) 2 (vp_nar .byte ((a >>> ((nI 8) &&& 31)).toInt8.toInt32))) 3 (vp_nar .byte ((a >>> ((nI 0) &&& 31)).toInt8.toInt32))) 4 (vp_nar .byte ((b >>> ((nI 24) &&& 31)).toInt8.toInt32))) 5 (vp_nar .byte ((b >>> ((nI 16) &&& 31)).toInt8.toInt32))) 6 (vp_nar .byte ((b >>> ((nI 8) &&& 31)).toInt8.toInt32))) 7 (vp_nar .byte ((b >>> ((nI 0) &&& 31)).toInt8.toInt32))) 8 (vp_nar .byte ((c9 >>> ((nI 24) &&& 31)).toInt8.toInt32))) 9 (vp_nar .byte ((c9 >>> ((nI 16) &&& 31)).toInt8.toInt32))) 10 (vp_nar .byte ((c9 >>> ((nI 8) &&& 31)).toInt8.toInt32))) 11 (vp_nar .byte ((c9 >>> ((nI 0) &&& 31)).toInt8.toInt32))) 12 (vp_nar .byte ((d >>> ((nI 24) &&& 31)).toInt8.toInt32))) 13 (vp_nar .byte ((d >>> ((nI 16) &&& 31)).toInt8.toInt32))) (nI 14).toNatClampNeg (vp_nar .byte ((d >>> ((nI 8) &&& 31)).toInt8.toInt32))))] H := hP
  have hD : va_D A [(h0, ob 12 (mfs (updG (updG (updG (updG (updG (updG (updG (updG (updG (updG (updG (updG (updG (updG g 1 (.int (nI 1))) 1 (.int (nI 2))) 1 (.int (nI 3))) 1 (.int (nI 4))) 1 (.int (nI 5))) 1 (.int (nI 6))) 1 (.int (nI 7))) 1 (.int (nI 8))) 1 (.int (nI 9))) 1 (.int (nI 10))) 1 (.int (nI 11))) 1 (.int (nI 12))) 1 (.int (nI 13))) 1 (.int (nI 14))))), ((r 0), aB E 4096 (upd (upd (upd (upd (upd (upd (upd (upd (upd (upd (upd (upd (upd (upd (upd (fun _ => 0) 0 (vp_nar .byte ((a >>> ((nI 24) &&& 31)).toInt8.toInt32))) 1 (vp_nar .byte ((a >>> ((nI 16) &&& 31)).toInt8.toInt32))) 2 (vp_nar .byte ((a >>> ((nI 8) &&& 31)).toInt8.toInt32))) 3 (vp_nar .byte ((a >>> ((nI 0) &&& 31)).toInt8.toInt32))) 4 (vp_nar .byte ((b >>> ((nI 24) &&& 31)).toInt8.toInt32))) 5 (vp_nar .byte ((b >>> ((nI 16) &&& 31)).toInt8.toInt32))) 6 (vp_nar .byte ((b >>> ((nI 8) &&& 31)).toInt8.toInt32))) 7 (vp_nar .byte ((b >>> ((nI 0) &&& 31)).toInt8.toInt32))) 8 (vp_nar .byte ((c9 >>> ((nI 24) &&& 31)).toInt8.toInt32))) 9 (vp_nar .byte ((c9 >>> ((nI 16) &&& 31)).toInt8.toInt32))) 10 (vp_nar .byte ((c9 >>> ((nI 8) &&& 31)).toInt8.toInt32))) 11 (vp_nar .byte ((c9 >>> ((nI 0) &&& 31)).toInt8.toInt32))) 12 (vp_nar .byte ((d >>> ((nI 24) &&& 31)).toInt8.toInt32))) 13 (vp_nar .byte ((d >>> ((nI 16) &&& 31)).toInt8.toInt32))) (nI 14).toNatClampNeg (vp_nar .byte ((d >>> ((nI 8) &&& 31)).toInt8.toInt32))))] := hD
  rw [nI_clamp (n := 14) (by decide)] at hP hD
  refine lv_aload_n hx hb dX12_feed_96 rfl (lv_at hl 2 rfl) ?_
  refine lv_dup hx hb dX12_feed_97 rfl ?_
  refine va_get (D := E.1) (ci := 12) (v := .int (nI 14)) (C := RX12) (T := TX12) (N := 116) hx hb hts iX12 hown hK hP 0 rfl rfl 1 (by decide) (hts _ wdF_RX12_258) (fun _ h9 => h9) ((mfs_get _ 1 (by decide)).trans (congrArg some (show (updG (updG (updG (updG (updG (updG (updG (updG (updG (updG (updG (updG (updG (updG g 1 (.int (nI 1))) 1 (.int (nI 2))) 1 (.int (nI 3))) 1 (.int (nI 4))) 1 (.int (nI 5))) 1 (.int (nI 6))) 1 (.int (nI 7))) 1 (.int (nI 8))) 1 (.int (nI 9))) 1 (.int (nI 10))) 1 (.int (nI 11))) 1 (.int (nI 12))) 1 (.int (nI 13))) 1 (.int (nI 14))) 1 = .int (nI 14) from rfl))) dX12_feed_98 ?_
  refine lv_iconst (v := nI 1) hx hb dX12_feed_101 (by decide) ?_
  refine lv_iadd hx hb dX12_feed_102 ?_
  rw [show ((nI 14) + (nI 1) : Int32) = nI 15 from by decide]
  refine va_put (D := E.1) (ci := 12) (v := .int (nI 15)) (ty := .int) (C := RX12) (T := TX12) (N := 116) hx hb hts iX12 tyX12 tyX12_ok nmX12 hown hK hP hD hS 0 rfl rfl 1 (by decide) (hts _ wdF_RX12_258) (fun _ h9 => h9) rfl (by decide +kernel) rfl rfl (by rw [mfs_len]; decide) dX12_feed_103 (fun H locs hP hD hS => ?_)
  have hP : va_P E.1 vwCl [(h0, ob 12 ((mfs (updG (updG (updG (updG (updG (updG (updG (updG (updG (updG (updG (updG (updG (updG g 1 (.int (nI 1))) 1 (.int (nI 2))) 1 (.int (nI 3))) 1 (.int (nI 4))) 1 (.int (nI 5))) 1 (.int (nI 6))) 1 (.int (nI 7))) 1 (.int (nI 8))) 1 (.int (nI 9))) 1 (.int (nI 10))) 1 (.int (nI 11))) 1 (.int (nI 12))) 1 (.int (nI 13))) 1 (.int (nI 14)))).set 1 (.int (nI 15)))), ((r 0), aB E 4096 (upd (upd (upd (upd (upd (upd (upd (upd (upd (upd (upd (upd (upd (upd (upd (fun _ => 0) 0 (vp_nar .byte ((a >>> ((nI 24) &&& 31)).toInt8.toInt32))) 1 (vp_nar .byte ((a >>> ((nI 16) &&& 31)).toInt8.toInt32))) 2 (vp_nar .byte ((a >>> ((nI 8) &&& 31)).toInt8.toInt32))) 3 (vp_nar .byte ((a >>> ((nI 0) &&& 31)).toInt8.toInt32))) 4 (vp_nar .byte ((b >>> ((nI 24) &&& 31)).toInt8.toInt32))) 5 (vp_nar .byte ((b >>> ((nI 16) &&& 31)).toInt8.toInt32))) 6 (vp_nar .byte ((b >>> ((nI 8) &&& 31)).toInt8.toInt32))) 7 (vp_nar .byte ((b >>> ((nI 0) &&& 31)).toInt8.toInt32))) 8 (vp_nar .byte ((c9 >>> ((nI 24) &&& 31)).toInt8.toInt32))) 9 (vp_nar .byte ((c9 >>> ((nI 16) &&& 31)).toInt8.toInt32))) 10 (vp_nar .byte ((c9 >>> ((nI 8) &&& 31)).toInt8.toInt32))) 11 (vp_nar .byte ((c9 >>> ((nI 0) &&& 31)).toInt8.toInt32))) 12 (vp_nar .byte ((d >>> ((nI 24) &&& 31)).toInt8.toInt32))) 13 (vp_nar .byte ((d >>> ((nI 16) &&& 31)).toInt8.toInt32))) 14 (vp_nar .byte ((d >>> ((nI 8) &&& 31)).toInt8.toInt32))))] H := hP
  have hD : va_D A [(h0, ob 12 ((mfs (updG (updG (updG (updG (updG (updG (updG (updG (updG (updG (updG (updG (updG (updG g 1 (.int (nI 1))) 1 (.int (nI 2))) 1 (.int (nI 3))) 1 (.int (nI 4))) 1 (.int (nI 5))) 1 (.int (nI 6))) 1 (.int (nI 7))) 1 (.int (nI 8))) 1 (.int (nI 9))) 1 (.int (nI 10))) 1 (.int (nI 11))) 1 (.int (nI 12))) 1 (.int (nI 13))) 1 (.int (nI 14)))).set 1 (.int (nI 15)))), ((r 0), aB E 4096 (upd (upd (upd (upd (upd (upd (upd (upd (upd (upd (upd (upd (upd (upd (upd (fun _ => 0) 0 (vp_nar .byte ((a >>> ((nI 24) &&& 31)).toInt8.toInt32))) 1 (vp_nar .byte ((a >>> ((nI 16) &&& 31)).toInt8.toInt32))) 2 (vp_nar .byte ((a >>> ((nI 8) &&& 31)).toInt8.toInt32))) 3 (vp_nar .byte ((a >>> ((nI 0) &&& 31)).toInt8.toInt32))) 4 (vp_nar .byte ((b >>> ((nI 24) &&& 31)).toInt8.toInt32))) 5 (vp_nar .byte ((b >>> ((nI 16) &&& 31)).toInt8.toInt32))) 6 (vp_nar .byte ((b >>> ((nI 8) &&& 31)).toInt8.toInt32))) 7 (vp_nar .byte ((b >>> ((nI 0) &&& 31)).toInt8.toInt32))) 8 (vp_nar .byte ((c9 >>> ((nI 24) &&& 31)).toInt8.toInt32))) 9 (vp_nar .byte ((c9 >>> ((nI 16) &&& 31)).toInt8.toInt32))) 10 (vp_nar .byte ((c9 >>> ((nI 8) &&& 31)).toInt8.toInt32))) 11 (vp_nar .byte ((c9 >>> ((nI 0) &&& 31)).toInt8.toInt32))) 12 (vp_nar .byte ((d >>> ((nI 24) &&& 31)).toInt8.toInt32))) 13 (vp_nar .byte ((d >>> ((nI 16) &&& 31)).toInt8.toInt32))) 14 (vp_nar .byte ((d >>> ((nI 8) &&& 31)).toInt8.toInt32))))] := hD
  rw [mfs_set _ 1 _ (by decide)] at hP hD
  refine lv_iinc (v := nI 15) (lv' := [(6, .int (nI 15)), (7, .int d), (0, .ref h0), (1, .int a), (2, .int b), (3, .int c9), (4, .int d), (5, .int e9)]) hx hb dX12_feed_106 hl (k := 1) rfl (by decide) (by decide) rfl (fun ls hl => ?_)
  refine lv_goto (tgt := 18) hx hb dX12_feed_109 (by decide) ?_
  refine lv_iload hx hb dX12_feed_18 (lv_at hl 0 rfl) ?_
  refine lv_bipush (v := nI 20) hx hb dX12_feed_20 (by decide) ?_
  refine lv_icmp_ge (tgt := 112) hx hb dX12_feed_22 (by decide) (fun c_997 => absurd c_997 (by decide)) (fun c_997 => ?_)
  refine lv_iload hx hb dX12_feed_25 (lv_at hl 0 rfl) ?_
  refine lv_iconst (v := nI 4) hx hb dX12_feed_27 (by decide) ?_
  refine lv_icmp_ge (tgt := 35) hx hb dX12_feed_28 (by decide) (fun c_998 => ?_) (fun c_998 => absurd (by decide) c_998)
  refine lv_iload hx hb dX12_feed_35 (lv_at hl 0 rfl) ?_
  refine lv_bipush (v := nI 8) hx hb dX12_feed_37 (by decide) ?_
  refine lv_icmp_ge (tgt := 46) hx hb dX12_feed_39 (by decide) (fun c_999 => ?_) (fun c_999 => absurd (by decide) c_999)
  refine lv_iload hx hb dX12_feed_46 (lv_at hl 0 rfl) ?_
  refine lv_bipush (v := nI 12) hx hb dX12_feed_48 (by decide) ?_
  refine lv_icmp_ge (tgt := 57) hx hb dX12_feed_50 (by decide) (fun c_1000 => ?_) (fun c_1000 => absurd (by decide) c_1000)
  refine lv_iload hx hb dX12_feed_57 (lv_at hl 0 rfl) ?_
  refine lv_bipush (v := nI 16) hx hb dX12_feed_59 (by decide) ?_
  refine lv_icmp_ge (tgt := 69) hx hb dX12_feed_61 (by decide) (fun c_1001 => absurd c_1001 (by decide)) (fun c_1001 => ?_)
  refine lv_iload hx hb dX12_feed_64 (lv_at hl 6 rfl) ?_
  refine lv_goto (tgt := 71) hx hb dX12_feed_66 (by decide) ?_
  refine lv_istore (lv' := [(7, .int d), (6, .int (nI 15)), (0, .ref h0), (1, .int a), (2, .int b), (3, .int c9), (4, .int d), (5, .int e9)]) hx hb dX12_feed_71 hl (by decide) rfl (fun ls hl => ?_)
  refine lv_aload_n hx hb dX12_feed_73 rfl (lv_at hl 2 rfl) ?_
  refine va_get (D := E.1) (ci := 12) (v := .ref (r 0)) (C := RX12) (T := TX12) (N := 116) hx hb hts iX12 hown hK hP 0 rfl rfl 0 (by decide) (hts _ wdF_RX12_7) (fun _ h9 => h9) ((mfs_get _ 0 (by decide)).trans (congrArg some (show (updG (updG (updG (updG (updG (updG (updG (updG (updG (updG (updG (updG (updG (updG (updG g 1 (.int (nI 1))) 1 (.int (nI 2))) 1 (.int (nI 3))) 1 (.int (nI 4))) 1 (.int (nI 5))) 1 (.int (nI 6))) 1 (.int (nI 7))) 1 (.int (nI 8))) 1 (.int (nI 9))) 1 (.int (nI 10))) 1 (.int (nI 11))) 1 (.int (nI 12))) 1 (.int (nI 13))) 1 (.int (nI 14))) 1 (.int (nI 15))) 0 = .ref (r 0) from (hR 0 rfl)))) dX12_feed_74 ?_
  refine lv_aload_n hx hb dX12_feed_77 rfl (lv_at hl 2 rfl) ?_
  refine va_get (D := E.1) (ci := 12) (v := .int (nI 15)) (C := RX12) (T := TX12) (N := 116) hx hb hts iX12 hown hK hP 0 rfl rfl 1 (by decide) (hts _ wdF_RX12_258) (fun _ h9 => h9) ((mfs_get _ 1 (by decide)).trans (congrArg some (show (updG (updG (updG (updG (updG (updG (updG (updG (updG (updG (updG (updG (updG (updG (updG g 1 (.int (nI 1))) 1 (.int (nI 2))) 1 (.int (nI 3))) 1 (.int (nI 4))) 1 (.int (nI 5))) 1 (.int (nI 6))) 1 (.int (nI 7))) 1 (.int (nI 8))) 1 (.int (nI 9))) 1 (.int (nI 10))) 1 (.int (nI 11))) 1 (.int (nI 12))) 1 (.int (nI 13))) 1 (.int (nI 14))) 1 (.int (nI 15))) 1 = .int (nI 15) from rfl))) dX12_feed_78 ?_
  refine lv_iload hx hb dX12_feed_81 (lv_at hl 0 rfl) ?_
  refine lv_bipush (v := nI 24) hx hb dX12_feed_83 (by decide) ?_
  refine lv_bipush (v := nI 8) hx hb dX12_feed_85 (by decide) ?_
  refine lv_iload hx hb dX12_feed_87 (lv_at hl 1 rfl) ?_
  refine lv_iconst (v := nI 3) hx hb dX12_feed_89 (by decide) ?_
  refine lv_iand hx hb dX12_feed_90 ?_
  rw [show ((nI 15) &&& (nI 3) : Int32) = nI 3 from by decide]
  refine lv_imul hx hb dX12_feed_91 ?_
  rw [show ((nI 8) * (nI 3) : Int32) = nI 24 from by decide]
  refine lv_isub hx hb dX12_feed_92 ?_
  rw [show ((nI 24) - (nI 24) : Int32) = nI 0 from by decide]
  refine lv_ishr hx hb dX12_feed_93 ?_
  refine lv_i2b hx hb dX12_feed_94 rfl ?_
  refine va_bast hx hb hK hP hD hS 1 0 rfl rfl (vp_in_nI (by decide) (by decide)) dX12_feed_95 (fun H locs hP hD hS => ?_)
  have hP : va_P E.1 vwCl [(h0, ob 12 (mfs (updG (updG (updG (updG (updG (updG (updG (updG (updG (updG (updG (updG (updG (updG (updG g 1 (.int (nI 1))) 1 (.int (nI 2))) 1 (.int (nI 3))) 1 (.int (nI 4))) 1 (.int (nI 5))) 1 (.int (nI 6))) 1 (.int (nI 7))) 1 (.int (nI 8))) 1 (.int (nI 9))) 1 (.int (nI 10))) 1 (.int (nI 11))) 1 (.int (nI 12))) 1 (.int (nI 13))) 1 (.int (nI 14))) 1 (.int (nI 15))))), ((r 0), aB E 4096 (upd (upd (upd (upd (upd (upd (upd (upd (upd (upd (upd (upd (upd (upd (upd (upd (fun _ => 0) 0 (vp_nar .byte ((a >>> ((nI 24) &&& 31)).toInt8.toInt32))) 1 (vp_nar .byte ((a >>> ((nI 16) &&& 31)).toInt8.toInt32))) 2 (vp_nar .byte ((a >>> ((nI 8) &&& 31)).toInt8.toInt32))) 3 (vp_nar .byte ((a >>> ((nI 0) &&& 31)).toInt8.toInt32))) 4 (vp_nar .byte ((b >>> ((nI 24) &&& 31)).toInt8.toInt32))) 5 (vp_nar .byte ((b >>> ((nI 16) &&& 31)).toInt8.toInt32))) 6 (vp_nar .byte ((b >>> ((nI 8) &&& 31)).toInt8.toInt32))) 7 (vp_nar .byte ((b >>> ((nI 0) &&& 31)).toInt8.toInt32))) 8 (vp_nar .byte ((c9 >>> ((nI 24) &&& 31)).toInt8.toInt32))) 9 (vp_nar .byte ((c9 >>> ((nI 16) &&& 31)).toInt8.toInt32))) 10 (vp_nar .byte ((c9 >>> ((nI 8) &&& 31)).toInt8.toInt32))) 11 (vp_nar .byte ((c9 >>> ((nI 0) &&& 31)).toInt8.toInt32))) 12 (vp_nar .byte ((d >>> ((nI 24) &&& 31)).toInt8.toInt32))) 13 (vp_nar .byte ((d >>> ((nI 16) &&& 31)).toInt8.toInt32))) 14 (vp_nar .byte ((d >>> ((nI 8) &&& 31)).toInt8.toInt32))) (nI 15).toNatClampNeg (vp_nar .byte ((d >>> ((nI 0) &&& 31)).toInt8.toInt32))))] H := hP
  have hD : va_D A [(h0, ob 12 (mfs (updG (updG (updG (updG (updG (updG (updG (updG (updG (updG (updG (updG (updG (updG (updG g 1 (.int (nI 1))) 1 (.int (nI 2))) 1 (.int (nI 3))) 1 (.int (nI 4))) 1 (.int (nI 5))) 1 (.int (nI 6))) 1 (.int (nI 7))) 1 (.int (nI 8))) 1 (.int (nI 9))) 1 (.int (nI 10))) 1 (.int (nI 11))) 1 (.int (nI 12))) 1 (.int (nI 13))) 1 (.int (nI 14))) 1 (.int (nI 15))))), ((r 0), aB E 4096 (upd (upd (upd (upd (upd (upd (upd (upd (upd (upd (upd (upd (upd (upd (upd (upd (fun _ => 0) 0 (vp_nar .byte ((a >>> ((nI 24) &&& 31)).toInt8.toInt32))) 1 (vp_nar .byte ((a >>> ((nI 16) &&& 31)).toInt8.toInt32))) 2 (vp_nar .byte ((a >>> ((nI 8) &&& 31)).toInt8.toInt32))) 3 (vp_nar .byte ((a >>> ((nI 0) &&& 31)).toInt8.toInt32))) 4 (vp_nar .byte ((b >>> ((nI 24) &&& 31)).toInt8.toInt32))) 5 (vp_nar .byte ((b >>> ((nI 16) &&& 31)).toInt8.toInt32))) 6 (vp_nar .byte ((b >>> ((nI 8) &&& 31)).toInt8.toInt32))) 7 (vp_nar .byte ((b >>> ((nI 0) &&& 31)).toInt8.toInt32))) 8 (vp_nar .byte ((c9 >>> ((nI 24) &&& 31)).toInt8.toInt32))) 9 (vp_nar .byte ((c9 >>> ((nI 16) &&& 31)).toInt8.toInt32))) 10 (vp_nar .byte ((c9 >>> ((nI 8) &&& 31)).toInt8.toInt32))) 11 (vp_nar .byte ((c9 >>> ((nI 0) &&& 31)).toInt8.toInt32))) 12 (vp_nar .byte ((d >>> ((nI 24) &&& 31)).toInt8.toInt32))) 13 (vp_nar .byte ((d >>> ((nI 16) &&& 31)).toInt8.toInt32))) 14 (vp_nar .byte ((d >>> ((nI 8) &&& 31)).toInt8.toInt32))) (nI 15).toNatClampNeg (vp_nar .byte ((d >>> ((nI 0) &&& 31)).toInt8.toInt32))))] := hD
  rw [nI_clamp (n := 15) (by decide)] at hP hD
  refine lv_aload_n hx hb dX12_feed_96 rfl (lv_at hl 2 rfl) ?_
  refine lv_dup hx hb dX12_feed_97 rfl ?_
  refine va_get (D := E.1) (ci := 12) (v := .int (nI 15)) (C := RX12) (T := TX12) (N := 116) hx hb hts iX12 hown hK hP 0 rfl rfl 1 (by decide) (hts _ wdF_RX12_258) (fun _ h9 => h9) ((mfs_get _ 1 (by decide)).trans (congrArg some (show (updG (updG (updG (updG (updG (updG (updG (updG (updG (updG (updG (updG (updG (updG (updG g 1 (.int (nI 1))) 1 (.int (nI 2))) 1 (.int (nI 3))) 1 (.int (nI 4))) 1 (.int (nI 5))) 1 (.int (nI 6))) 1 (.int (nI 7))) 1 (.int (nI 8))) 1 (.int (nI 9))) 1 (.int (nI 10))) 1 (.int (nI 11))) 1 (.int (nI 12))) 1 (.int (nI 13))) 1 (.int (nI 14))) 1 (.int (nI 15))) 1 = .int (nI 15) from rfl))) dX12_feed_98 ?_
  refine lv_iconst (v := nI 1) hx hb dX12_feed_101 (by decide) ?_
  refine lv_iadd hx hb dX12_feed_102 ?_
  rw [show ((nI 15) + (nI 1) : Int32) = nI 16 from by decide]
  refine va_put (D := E.1) (ci := 12) (v := .int (nI 16)) (ty := .int) (C := RX12) (T := TX12) (N := 116) hx hb hts iX12 tyX12 tyX12_ok nmX12 hown hK hP hD hS 0 rfl rfl 1 (by decide) (hts _ wdF_RX12_258) (fun _ h9 => h9) rfl (by decide +kernel) rfl rfl (by rw [mfs_len]; decide) dX12_feed_103 (fun H locs hP hD hS => ?_)
  have hP : va_P E.1 vwCl [(h0, ob 12 ((mfs (updG (updG (updG (updG (updG (updG (updG (updG (updG (updG (updG (updG (updG (updG (updG g 1 (.int (nI 1))) 1 (.int (nI 2))) 1 (.int (nI 3))) 1 (.int (nI 4))) 1 (.int (nI 5))) 1 (.int (nI 6))) 1 (.int (nI 7))) 1 (.int (nI 8))) 1 (.int (nI 9))) 1 (.int (nI 10))) 1 (.int (nI 11))) 1 (.int (nI 12))) 1 (.int (nI 13))) 1 (.int (nI 14))) 1 (.int (nI 15)))).set 1 (.int (nI 16)))), ((r 0), aB E 4096 (upd (upd (upd (upd (upd (upd (upd (upd (upd (upd (upd (upd (upd (upd (upd (upd (fun _ => 0) 0 (vp_nar .byte ((a >>> ((nI 24) &&& 31)).toInt8.toInt32))) 1 (vp_nar .byte ((a >>> ((nI 16) &&& 31)).toInt8.toInt32))) 2 (vp_nar .byte ((a >>> ((nI 8) &&& 31)).toInt8.toInt32))) 3 (vp_nar .byte ((a >>> ((nI 0) &&& 31)).toInt8.toInt32))) 4 (vp_nar .byte ((b >>> ((nI 24) &&& 31)).toInt8.toInt32))) 5 (vp_nar .byte ((b >>> ((nI 16) &&& 31)).toInt8.toInt32))) 6 (vp_nar .byte ((b >>> ((nI 8) &&& 31)).toInt8.toInt32))) 7 (vp_nar .byte ((b >>> ((nI 0) &&& 31)).toInt8.toInt32))) 8 (vp_nar .byte ((c9 >>> ((nI 24) &&& 31)).toInt8.toInt32))) 9 (vp_nar .byte ((c9 >>> ((nI 16) &&& 31)).toInt8.toInt32))) 10 (vp_nar .byte ((c9 >>> ((nI 8) &&& 31)).toInt8.toInt32))) 11 (vp_nar .byte ((c9 >>> ((nI 0) &&& 31)).toInt8.toInt32))) 12 (vp_nar .byte ((d >>> ((nI 24) &&& 31)).toInt8.toInt32))) 13 (vp_nar .byte ((d >>> ((nI 16) &&& 31)).toInt8.toInt32))) 14 (vp_nar .byte ((d >>> ((nI 8) &&& 31)).toInt8.toInt32))) 15 (vp_nar .byte ((d >>> ((nI 0) &&& 31)).toInt8.toInt32))))] H := hP
  have hD : va_D A [(h0, ob 12 ((mfs (updG (updG (updG (updG (updG (updG (updG (updG (updG (updG (updG (updG (updG (updG (updG g 1 (.int (nI 1))) 1 (.int (nI 2))) 1 (.int (nI 3))) 1 (.int (nI 4))) 1 (.int (nI 5))) 1 (.int (nI 6))) 1 (.int (nI 7))) 1 (.int (nI 8))) 1 (.int (nI 9))) 1 (.int (nI 10))) 1 (.int (nI 11))) 1 (.int (nI 12))) 1 (.int (nI 13))) 1 (.int (nI 14))) 1 (.int (nI 15)))).set 1 (.int (nI 16)))), ((r 0), aB E 4096 (upd (upd (upd (upd (upd (upd (upd (upd (upd (upd (upd (upd (upd (upd (upd (upd (fun _ => 0) 0 (vp_nar .byte ((a >>> ((nI 24) &&& 31)).toInt8.toInt32))) 1 (vp_nar .byte ((a >>> ((nI 16) &&& 31)).toInt8.toInt32))) 2 (vp_nar .byte ((a >>> ((nI 8) &&& 31)).toInt8.toInt32))) 3 (vp_nar .byte ((a >>> ((nI 0) &&& 31)).toInt8.toInt32))) 4 (vp_nar .byte ((b >>> ((nI 24) &&& 31)).toInt8.toInt32))) 5 (vp_nar .byte ((b >>> ((nI 16) &&& 31)).toInt8.toInt32))) 6 (vp_nar .byte ((b >>> ((nI 8) &&& 31)).toInt8.toInt32))) 7 (vp_nar .byte ((b >>> ((nI 0) &&& 31)).toInt8.toInt32))) 8 (vp_nar .byte ((c9 >>> ((nI 24) &&& 31)).toInt8.toInt32))) 9 (vp_nar .byte ((c9 >>> ((nI 16) &&& 31)).toInt8.toInt32))) 10 (vp_nar .byte ((c9 >>> ((nI 8) &&& 31)).toInt8.toInt32))) 11 (vp_nar .byte ((c9 >>> ((nI 0) &&& 31)).toInt8.toInt32))) 12 (vp_nar .byte ((d >>> ((nI 24) &&& 31)).toInt8.toInt32))) 13 (vp_nar .byte ((d >>> ((nI 16) &&& 31)).toInt8.toInt32))) 14 (vp_nar .byte ((d >>> ((nI 8) &&& 31)).toInt8.toInt32))) 15 (vp_nar .byte ((d >>> ((nI 0) &&& 31)).toInt8.toInt32))))] := hD
  rw [mfs_set _ 1 _ (by decide)] at hP hD
  refine lv_iinc (v := nI 16) (lv' := [(6, .int (nI 16)), (7, .int d), (0, .ref h0), (1, .int a), (2, .int b), (3, .int c9), (4, .int d), (5, .int e9)]) hx hb dX12_feed_106 hl (k := 1) rfl (by decide) (by decide) rfl (fun ls hl => ?_)
  refine lv_goto (tgt := 18) hx hb dX12_feed_109 (by decide) ?_
  refine lv_iload hx hb dX12_feed_18 (lv_at hl 0 rfl) ?_
  refine lv_bipush (v := nI 20) hx hb dX12_feed_20 (by decide) ?_
  refine lv_icmp_ge (tgt := 112) hx hb dX12_feed_22 (by decide) (fun c_1002 => absurd c_1002 (by decide)) (fun c_1002 => ?_)
  refine lv_iload hx hb dX12_feed_25 (lv_at hl 0 rfl) ?_
  refine lv_iconst (v := nI 4) hx hb dX12_feed_27 (by decide) ?_
  refine lv_icmp_ge (tgt := 35) hx hb dX12_feed_28 (by decide) (fun c_1003 => ?_) (fun c_1003 => absurd (by decide) c_1003)
  refine lv_iload hx hb dX12_feed_35 (lv_at hl 0 rfl) ?_
  refine lv_bipush (v := nI 8) hx hb dX12_feed_37 (by decide) ?_
  refine lv_icmp_ge (tgt := 46) hx hb dX12_feed_39 (by decide) (fun c_1004 => ?_) (fun c_1004 => absurd (by decide) c_1004)
  refine lv_iload hx hb dX12_feed_46 (lv_at hl 0 rfl) ?_
  refine lv_bipush (v := nI 12) hx hb dX12_feed_48 (by decide) ?_
  refine lv_icmp_ge (tgt := 57) hx hb dX12_feed_50 (by decide) (fun c_1005 => ?_) (fun c_1005 => absurd (by decide) c_1005)
  refine lv_iload hx hb dX12_feed_57 (lv_at hl 0 rfl) ?_
  refine lv_bipush (v := nI 16) hx hb dX12_feed_59 (by decide) ?_
  refine lv_icmp_ge (tgt := 69) hx hb dX12_feed_61 (by decide) (fun c_1006 => ?_) (fun c_1006 => absurd (by decide) c_1006)
  refine lv_iload hx hb dX12_feed_69 (lv_at hl 7 rfl) ?_
  refine lv_istore (lv' := [(7, .int e9), (6, .int (nI 16)), (0, .ref h0), (1, .int a), (2, .int b), (3, .int c9), (4, .int d), (5, .int e9)]) hx hb dX12_feed_71 hl (by decide) rfl (fun ls hl => ?_)
  refine lv_aload_n hx hb dX12_feed_73 rfl (lv_at hl 2 rfl) ?_
  refine va_get (D := E.1) (ci := 12) (v := .ref (r 0)) (C := RX12) (T := TX12) (N := 116) hx hb hts iX12 hown hK hP 0 rfl rfl 0 (by decide) (hts _ wdF_RX12_7) (fun _ h9 => h9) ((mfs_get _ 0 (by decide)).trans (congrArg some (show (updG (updG (updG (updG (updG (updG (updG (updG (updG (updG (updG (updG (updG (updG (updG (updG g 1 (.int (nI 1))) 1 (.int (nI 2))) 1 (.int (nI 3))) 1 (.int (nI 4))) 1 (.int (nI 5))) 1 (.int (nI 6))) 1 (.int (nI 7))) 1 (.int (nI 8))) 1 (.int (nI 9))) 1 (.int (nI 10))) 1 (.int (nI 11))) 1 (.int (nI 12))) 1 (.int (nI 13))) 1 (.int (nI 14))) 1 (.int (nI 15))) 1 (.int (nI 16))) 0 = .ref (r 0) from (hR 0 rfl)))) dX12_feed_74 ?_
  refine lv_aload_n hx hb dX12_feed_77 rfl (lv_at hl 2 rfl) ?_
  refine va_get (D := E.1) (ci := 12) (v := .int (nI 16)) (C := RX12) (T := TX12) (N := 116) hx hb hts iX12 hown hK hP 0 rfl rfl 1 (by decide) (hts _ wdF_RX12_258) (fun _ h9 => h9) ((mfs_get _ 1 (by decide)).trans (congrArg some (show (updG (updG (updG (updG (updG (updG (updG (updG (updG (updG (updG (updG (updG (updG (updG (updG g 1 (.int (nI 1))) 1 (.int (nI 2))) 1 (.int (nI 3))) 1 (.int (nI 4))) 1 (.int (nI 5))) 1 (.int (nI 6))) 1 (.int (nI 7))) 1 (.int (nI 8))) 1 (.int (nI 9))) 1 (.int (nI 10))) 1 (.int (nI 11))) 1 (.int (nI 12))) 1 (.int (nI 13))) 1 (.int (nI 14))) 1 (.int (nI 15))) 1 (.int (nI 16))) 1 = .int (nI 16) from rfl))) dX12_feed_78 ?_
  refine lv_iload hx hb dX12_feed_81 (lv_at hl 0 rfl) ?_
  refine lv_bipush (v := nI 24) hx hb dX12_feed_83 (by decide) ?_
  refine lv_bipush (v := nI 8) hx hb dX12_feed_85 (by decide) ?_
  refine lv_iload hx hb dX12_feed_87 (lv_at hl 1 rfl) ?_
  refine lv_iconst (v := nI 3) hx hb dX12_feed_89 (by decide) ?_
  refine lv_iand hx hb dX12_feed_90 ?_
  rw [show ((nI 16) &&& (nI 3) : Int32) = nI 0 from by decide]
  refine lv_imul hx hb dX12_feed_91 ?_
  rw [show ((nI 8) * (nI 0) : Int32) = nI 0 from by decide]
  refine lv_isub hx hb dX12_feed_92 ?_
  rw [show ((nI 24) - (nI 0) : Int32) = nI 24 from by decide]
  refine lv_ishr hx hb dX12_feed_93 ?_
  refine lv_i2b hx hb dX12_feed_94 rfl ?_
  refine va_bast hx hb hK hP hD hS 1 0 rfl rfl (vp_in_nI (by decide) (by decide)) dX12_feed_95 (fun H locs hP hD hS => ?_)
  have hP : va_P E.1 vwCl [(h0, ob 12 (mfs (updG (updG (updG (updG (updG (updG (updG (updG (updG (updG (updG (updG (updG (updG (updG (updG g 1 (.int (nI 1))) 1 (.int (nI 2))) 1 (.int (nI 3))) 1 (.int (nI 4))) 1 (.int (nI 5))) 1 (.int (nI 6))) 1 (.int (nI 7))) 1 (.int (nI 8))) 1 (.int (nI 9))) 1 (.int (nI 10))) 1 (.int (nI 11))) 1 (.int (nI 12))) 1 (.int (nI 13))) 1 (.int (nI 14))) 1 (.int (nI 15))) 1 (.int (nI 16))))), ((r 0), aB E 4096 (upd (upd (upd (upd (upd (upd (upd (upd (upd (upd (upd (upd (upd (upd (upd (upd (upd (fun _ => 0) 0 (vp_nar .byte ((a >>> ((nI 24) &&& 31)).toInt8.toInt32))) 1 (vp_nar .byte ((a >>> ((nI 16) &&& 31)).toInt8.toInt32))) 2 (vp_nar .byte ((a >>> ((nI 8) &&& 31)).toInt8.toInt32))) 3 (vp_nar .byte ((a >>> ((nI 0) &&& 31)).toInt8.toInt32))) 4 (vp_nar .byte ((b >>> ((nI 24) &&& 31)).toInt8.toInt32))) 5 (vp_nar .byte ((b >>> ((nI 16) &&& 31)).toInt8.toInt32))) 6 (vp_nar .byte ((b >>> ((nI 8) &&& 31)).toInt8.toInt32))) 7 (vp_nar .byte ((b >>> ((nI 0) &&& 31)).toInt8.toInt32))) 8 (vp_nar .byte ((c9 >>> ((nI 24) &&& 31)).toInt8.toInt32))) 9 (vp_nar .byte ((c9 >>> ((nI 16) &&& 31)).toInt8.toInt32))) 10 (vp_nar .byte ((c9 >>> ((nI 8) &&& 31)).toInt8.toInt32))) 11 (vp_nar .byte ((c9 >>> ((nI 0) &&& 31)).toInt8.toInt32))) 12 (vp_nar .byte ((d >>> ((nI 24) &&& 31)).toInt8.toInt32))) 13 (vp_nar .byte ((d >>> ((nI 16) &&& 31)).toInt8.toInt32))) 14 (vp_nar .byte ((d >>> ((nI 8) &&& 31)).toInt8.toInt32))) 15 (vp_nar .byte ((d >>> ((nI 0) &&& 31)).toInt8.toInt32))) (nI 16).toNatClampNeg (vp_nar .byte ((e9 >>> ((nI 24) &&& 31)).toInt8.toInt32))))] H := hP
  have hD : va_D A [(h0, ob 12 (mfs (updG (updG (updG (updG (updG (updG (updG (updG (updG (updG (updG (updG (updG (updG (updG (updG g 1 (.int (nI 1))) 1 (.int (nI 2))) 1 (.int (nI 3))) 1 (.int (nI 4))) 1 (.int (nI 5))) 1 (.int (nI 6))) 1 (.int (nI 7))) 1 (.int (nI 8))) 1 (.int (nI 9))) 1 (.int (nI 10))) 1 (.int (nI 11))) 1 (.int (nI 12))) 1 (.int (nI 13))) 1 (.int (nI 14))) 1 (.int (nI 15))) 1 (.int (nI 16))))), ((r 0), aB E 4096 (upd (upd (upd (upd (upd (upd (upd (upd (upd (upd (upd (upd (upd (upd (upd (upd (upd (fun _ => 0) 0 (vp_nar .byte ((a >>> ((nI 24) &&& 31)).toInt8.toInt32))) 1 (vp_nar .byte ((a >>> ((nI 16) &&& 31)).toInt8.toInt32))) 2 (vp_nar .byte ((a >>> ((nI 8) &&& 31)).toInt8.toInt32))) 3 (vp_nar .byte ((a >>> ((nI 0) &&& 31)).toInt8.toInt32))) 4 (vp_nar .byte ((b >>> ((nI 24) &&& 31)).toInt8.toInt32))) 5 (vp_nar .byte ((b >>> ((nI 16) &&& 31)).toInt8.toInt32))) 6 (vp_nar .byte ((b >>> ((nI 8) &&& 31)).toInt8.toInt32))) 7 (vp_nar .byte ((b >>> ((nI 0) &&& 31)).toInt8.toInt32))) 8 (vp_nar .byte ((c9 >>> ((nI 24) &&& 31)).toInt8.toInt32))) 9 (vp_nar .byte ((c9 >>> ((nI 16) &&& 31)).toInt8.toInt32))) 10 (vp_nar .byte ((c9 >>> ((nI 8) &&& 31)).toInt8.toInt32))) 11 (vp_nar .byte ((c9 >>> ((nI 0) &&& 31)).toInt8.toInt32))) 12 (vp_nar .byte ((d >>> ((nI 24) &&& 31)).toInt8.toInt32))) 13 (vp_nar .byte ((d >>> ((nI 16) &&& 31)).toInt8.toInt32))) 14 (vp_nar .byte ((d >>> ((nI 8) &&& 31)).toInt8.toInt32))) 15 (vp_nar .byte ((d >>> ((nI 0) &&& 31)).toInt8.toInt32))) (nI 16).toNatClampNeg (vp_nar .byte ((e9 >>> ((nI 24) &&& 31)).toInt8.toInt32))))] := hD
  rw [nI_clamp (n := 16) (by decide)] at hP hD
  refine lv_aload_n hx hb dX12_feed_96 rfl (lv_at hl 2 rfl) ?_
  refine lv_dup hx hb dX12_feed_97 rfl ?_
  refine va_get (D := E.1) (ci := 12) (v := .int (nI 16)) (C := RX12) (T := TX12) (N := 116) hx hb hts iX12 hown hK hP 0 rfl rfl 1 (by decide) (hts _ wdF_RX12_258) (fun _ h9 => h9) ((mfs_get _ 1 (by decide)).trans (congrArg some (show (updG (updG (updG (updG (updG (updG (updG (updG (updG (updG (updG (updG (updG (updG (updG (updG g 1 (.int (nI 1))) 1 (.int (nI 2))) 1 (.int (nI 3))) 1 (.int (nI 4))) 1 (.int (nI 5))) 1 (.int (nI 6))) 1 (.int (nI 7))) 1 (.int (nI 8))) 1 (.int (nI 9))) 1 (.int (nI 10))) 1 (.int (nI 11))) 1 (.int (nI 12))) 1 (.int (nI 13))) 1 (.int (nI 14))) 1 (.int (nI 15))) 1 (.int (nI 16))) 1 = .int (nI 16) from rfl))) dX12_feed_98 ?_
  refine lv_iconst (v := nI 1) hx hb dX12_feed_101 (by decide) ?_
  refine lv_iadd hx hb dX12_feed_102 ?_
  rw [show ((nI 16) + (nI 1) : Int32) = nI 17 from by decide]
  refine va_put (D := E.1) (ci := 12) (v := .int (nI 17)) (ty := .int) (C := RX12) (T := TX12) (N := 116) hx hb hts iX12 tyX12 tyX12_ok nmX12 hown hK hP hD hS 0 rfl rfl 1 (by decide) (hts _ wdF_RX12_258) (fun _ h9 => h9) rfl (by decide +kernel) rfl rfl (by rw [mfs_len]; decide) dX12_feed_103 (fun H locs hP hD hS => ?_)
  have hP : va_P E.1 vwCl [(h0, ob 12 ((mfs (updG (updG (updG (updG (updG (updG (updG (updG (updG (updG (updG (updG (updG (updG (updG (updG g 1 (.int (nI 1))) 1 (.int (nI 2))) 1 (.int (nI 3))) 1 (.int (nI 4))) 1 (.int (nI 5))) 1 (.int (nI 6))) 1 (.int (nI 7))) 1 (.int (nI 8))) 1 (.int (nI 9))) 1 (.int (nI 10))) 1 (.int (nI 11))) 1 (.int (nI 12))) 1 (.int (nI 13))) 1 (.int (nI 14))) 1 (.int (nI 15))) 1 (.int (nI 16)))).set 1 (.int (nI 17)))), ((r 0), aB E 4096 (upd (upd (upd (upd (upd (upd (upd (upd (upd (upd (upd (upd (upd (upd (upd (upd (upd (fun _ => 0) 0 (vp_nar .byte ((a >>> ((nI 24) &&& 31)).toInt8.toInt32))) 1 (vp_nar .byte ((a >>> ((nI 16) &&& 31)).toInt8.toInt32))) 2 (vp_nar .byte ((a >>> ((nI 8) &&& 31)).toInt8.toInt32))) 3 (vp_nar .byte ((a >>> ((nI 0) &&& 31)).toInt8.toInt32))) 4 (vp_nar .byte ((b >>> ((nI 24) &&& 31)).toInt8.toInt32))) 5 (vp_nar .byte ((b >>> ((nI 16) &&& 31)).toInt8.toInt32))) 6 (vp_nar .byte ((b >>> ((nI 8) &&& 31)).toInt8.toInt32))) 7 (vp_nar .byte ((b >>> ((nI 0) &&& 31)).toInt8.toInt32))) 8 (vp_nar .byte ((c9 >>> ((nI 24) &&& 31)).toInt8.toInt32))) 9 (vp_nar .byte ((c9 >>> ((nI 16) &&& 31)).toInt8.toInt32))) 10 (vp_nar .byte ((c9 >>> ((nI 8) &&& 31)).toInt8.toInt32))) 11 (vp_nar .byte ((c9 >>> ((nI 0) &&& 31)).toInt8.toInt32))) 12 (vp_nar .byte ((d >>> ((nI 24) &&& 31)).toInt8.toInt32))) 13 (vp_nar .byte ((d >>> ((nI 16) &&& 31)).toInt8.toInt32))) 14 (vp_nar .byte ((d >>> ((nI 8) &&& 31)).toInt8.toInt32))) 15 (vp_nar .byte ((d >>> ((nI 0) &&& 31)).toInt8.toInt32))) 16 (vp_nar .byte ((e9 >>> ((nI 24) &&& 31)).toInt8.toInt32))))] H := hP
  have hD : va_D A [(h0, ob 12 ((mfs (updG (updG (updG (updG (updG (updG (updG (updG (updG (updG (updG (updG (updG (updG (updG (updG g 1 (.int (nI 1))) 1 (.int (nI 2))) 1 (.int (nI 3))) 1 (.int (nI 4))) 1 (.int (nI 5))) 1 (.int (nI 6))) 1 (.int (nI 7))) 1 (.int (nI 8))) 1 (.int (nI 9))) 1 (.int (nI 10))) 1 (.int (nI 11))) 1 (.int (nI 12))) 1 (.int (nI 13))) 1 (.int (nI 14))) 1 (.int (nI 15))) 1 (.int (nI 16)))).set 1 (.int (nI 17)))), ((r 0), aB E 4096 (upd (upd (upd (upd (upd (upd (upd (upd (upd (upd (upd (upd (upd (upd (upd (upd (upd (fun _ => 0) 0 (vp_nar .byte ((a >>> ((nI 24) &&& 31)).toInt8.toInt32))) 1 (vp_nar .byte ((a >>> ((nI 16) &&& 31)).toInt8.toInt32))) 2 (vp_nar .byte ((a >>> ((nI 8) &&& 31)).toInt8.toInt32))) 3 (vp_nar .byte ((a >>> ((nI 0) &&& 31)).toInt8.toInt32))) 4 (vp_nar .byte ((b >>> ((nI 24) &&& 31)).toInt8.toInt32))) 5 (vp_nar .byte ((b >>> ((nI 16) &&& 31)).toInt8.toInt32))) 6 (vp_nar .byte ((b >>> ((nI 8) &&& 31)).toInt8.toInt32))) 7 (vp_nar .byte ((b >>> ((nI 0) &&& 31)).toInt8.toInt32))) 8 (vp_nar .byte ((c9 >>> ((nI 24) &&& 31)).toInt8.toInt32))) 9 (vp_nar .byte ((c9 >>> ((nI 16) &&& 31)).toInt8.toInt32))) 10 (vp_nar .byte ((c9 >>> ((nI 8) &&& 31)).toInt8.toInt32))) 11 (vp_nar .byte ((c9 >>> ((nI 0) &&& 31)).toInt8.toInt32))) 12 (vp_nar .byte ((d >>> ((nI 24) &&& 31)).toInt8.toInt32))) 13 (vp_nar .byte ((d >>> ((nI 16) &&& 31)).toInt8.toInt32))) 14 (vp_nar .byte ((d >>> ((nI 8) &&& 31)).toInt8.toInt32))) 15 (vp_nar .byte ((d >>> ((nI 0) &&& 31)).toInt8.toInt32))) 16 (vp_nar .byte ((e9 >>> ((nI 24) &&& 31)).toInt8.toInt32))))] := hD
  rw [mfs_set _ 1 _ (by decide)] at hP hD
  refine lv_iinc (v := nI 17) (lv' := [(6, .int (nI 17)), (7, .int e9), (0, .ref h0), (1, .int a), (2, .int b), (3, .int c9), (4, .int d), (5, .int e9)]) hx hb dX12_feed_106 hl (k := 1) rfl (by decide) (by decide) rfl (fun ls hl => ?_)
  refine lv_goto (tgt := 18) hx hb dX12_feed_109 (by decide) ?_
  refine lv_iload hx hb dX12_feed_18 (lv_at hl 0 rfl) ?_
  refine lv_bipush (v := nI 20) hx hb dX12_feed_20 (by decide) ?_
  refine lv_icmp_ge (tgt := 112) hx hb dX12_feed_22 (by decide) (fun c_1007 => absurd c_1007 (by decide)) (fun c_1007 => ?_)
  refine lv_iload hx hb dX12_feed_25 (lv_at hl 0 rfl) ?_
  refine lv_iconst (v := nI 4) hx hb dX12_feed_27 (by decide) ?_
  refine lv_icmp_ge (tgt := 35) hx hb dX12_feed_28 (by decide) (fun c_1008 => ?_) (fun c_1008 => absurd (by decide) c_1008)
  refine lv_iload hx hb dX12_feed_35 (lv_at hl 0 rfl) ?_
  refine lv_bipush (v := nI 8) hx hb dX12_feed_37 (by decide) ?_
  refine lv_icmp_ge (tgt := 46) hx hb dX12_feed_39 (by decide) (fun c_1009 => ?_) (fun c_1009 => absurd (by decide) c_1009)
  refine lv_iload hx hb dX12_feed_46 (lv_at hl 0 rfl) ?_
  refine lv_bipush (v := nI 12) hx hb dX12_feed_48 (by decide) ?_
  refine lv_icmp_ge (tgt := 57) hx hb dX12_feed_50 (by decide) (fun c_1010 => ?_) (fun c_1010 => absurd (by decide) c_1010)
  refine lv_iload hx hb dX12_feed_57 (lv_at hl 0 rfl) ?_
  refine lv_bipush (v := nI 16) hx hb dX12_feed_59 (by decide) ?_
  refine lv_icmp_ge (tgt := 69) hx hb dX12_feed_61 (by decide) (fun c_1011 => ?_) (fun c_1011 => absurd (by decide) c_1011)
  refine lv_iload hx hb dX12_feed_69 (lv_at hl 7 rfl) ?_
  refine lv_istore (lv' := [(7, .int e9), (6, .int (nI 17)), (0, .ref h0), (1, .int a), (2, .int b), (3, .int c9), (4, .int d), (5, .int e9)]) hx hb dX12_feed_71 hl (by decide) rfl (fun ls hl => ?_)
  refine lv_aload_n hx hb dX12_feed_73 rfl (lv_at hl 2 rfl) ?_
  refine va_get (D := E.1) (ci := 12) (v := .ref (r 0)) (C := RX12) (T := TX12) (N := 116) hx hb hts iX12 hown hK hP 0 rfl rfl 0 (by decide) (hts _ wdF_RX12_7) (fun _ h9 => h9) ((mfs_get _ 0 (by decide)).trans (congrArg some (show (updG (updG (updG (updG (updG (updG (updG (updG (updG (updG (updG (updG (updG (updG (updG (updG (updG g 1 (.int (nI 1))) 1 (.int (nI 2))) 1 (.int (nI 3))) 1 (.int (nI 4))) 1 (.int (nI 5))) 1 (.int (nI 6))) 1 (.int (nI 7))) 1 (.int (nI 8))) 1 (.int (nI 9))) 1 (.int (nI 10))) 1 (.int (nI 11))) 1 (.int (nI 12))) 1 (.int (nI 13))) 1 (.int (nI 14))) 1 (.int (nI 15))) 1 (.int (nI 16))) 1 (.int (nI 17))) 0 = .ref (r 0) from (hR 0 rfl)))) dX12_feed_74 ?_
  refine lv_aload_n hx hb dX12_feed_77 rfl (lv_at hl 2 rfl) ?_
  refine va_get (D := E.1) (ci := 12) (v := .int (nI 17)) (C := RX12) (T := TX12) (N := 116) hx hb hts iX12 hown hK hP 0 rfl rfl 1 (by decide) (hts _ wdF_RX12_258) (fun _ h9 => h9) ((mfs_get _ 1 (by decide)).trans (congrArg some (show (updG (updG (updG (updG (updG (updG (updG (updG (updG (updG (updG (updG (updG (updG (updG (updG (updG g 1 (.int (nI 1))) 1 (.int (nI 2))) 1 (.int (nI 3))) 1 (.int (nI 4))) 1 (.int (nI 5))) 1 (.int (nI 6))) 1 (.int (nI 7))) 1 (.int (nI 8))) 1 (.int (nI 9))) 1 (.int (nI 10))) 1 (.int (nI 11))) 1 (.int (nI 12))) 1 (.int (nI 13))) 1 (.int (nI 14))) 1 (.int (nI 15))) 1 (.int (nI 16))) 1 (.int (nI 17))) 1 = .int (nI 17) from rfl))) dX12_feed_78 ?_
  refine lv_iload hx hb dX12_feed_81 (lv_at hl 0 rfl) ?_
  refine lv_bipush (v := nI 24) hx hb dX12_feed_83 (by decide) ?_
  refine lv_bipush (v := nI 8) hx hb dX12_feed_85 (by decide) ?_
  refine lv_iload hx hb dX12_feed_87 (lv_at hl 1 rfl) ?_
  refine lv_iconst (v := nI 3) hx hb dX12_feed_89 (by decide) ?_
  refine lv_iand hx hb dX12_feed_90 ?_
  rw [show ((nI 17) &&& (nI 3) : Int32) = nI 1 from by decide]
  refine lv_imul hx hb dX12_feed_91 ?_
  rw [show ((nI 8) * (nI 1) : Int32) = nI 8 from by decide]
  refine lv_isub hx hb dX12_feed_92 ?_
  rw [show ((nI 24) - (nI 8) : Int32) = nI 16 from by decide]
  refine lv_ishr hx hb dX12_feed_93 ?_
  refine lv_i2b hx hb dX12_feed_94 rfl ?_
  refine va_bast hx hb hK hP hD hS 1 0 rfl rfl (vp_in_nI (by decide) (by decide)) dX12_feed_95 (fun H locs hP hD hS => ?_)
  have hP : va_P E.1 vwCl [(h0, ob 12 (mfs (updG (updG (updG (updG (updG (updG (updG (updG (updG (updG (updG (updG (updG (updG (updG (updG (updG g 1 (.int (nI 1))) 1 (.int (nI 2))) 1 (.int (nI 3))) 1 (.int (nI 4))) 1 (.int (nI 5))) 1 (.int (nI 6))) 1 (.int (nI 7))) 1 (.int (nI 8))) 1 (.int (nI 9))) 1 (.int (nI 10))) 1 (.int (nI 11))) 1 (.int (nI 12))) 1 (.int (nI 13))) 1 (.int (nI 14))) 1 (.int (nI 15))) 1 (.int (nI 16))) 1 (.int (nI 17))))), ((r 0), aB E 4096 (upd (upd (upd (upd (upd (upd (upd (upd (upd (upd (upd (upd (upd (upd (upd (upd (upd (upd (fun _ => 0) 0 (vp_nar .byte ((a >>> ((nI 24) &&& 31)).toInt8.toInt32))) 1 (vp_nar .byte ((a >>> ((nI 16) &&& 31)).toInt8.toInt32))) 2 (vp_nar .byte ((a >>> ((nI 8) &&& 31)).toInt8.toInt32))) 3 (vp_nar .byte ((a >>> ((nI 0) &&& 31)).toInt8.toInt32))) 4 (vp_nar .byte ((b >>> ((nI 24) &&& 31)).toInt8.toInt32))) 5 (vp_nar .byte ((b >>> ((nI 16) &&& 31)).toInt8.toInt32))) 6 (vp_nar .byte ((b >>> ((nI 8) &&& 31)).toInt8.toInt32))) 7 (vp_nar .byte ((b >>> ((nI 0) &&& 31)).toInt8.toInt32))) 8 (vp_nar .byte ((c9 >>> ((nI 24) &&& 31)).toInt8.toInt32))) 9 (vp_nar .byte ((c9 >>> ((nI 16) &&& 31)).toInt8.toInt32))) 10 (vp_nar .byte ((c9 >>> ((nI 8) &&& 31)).toInt8.toInt32))) 11 (vp_nar .byte ((c9 >>> ((nI 0) &&& 31)).toInt8.toInt32))) 12 (vp_nar .byte ((d >>> ((nI 24) &&& 31)).toInt8.toInt32))) 13 (vp_nar .byte ((d >>> ((nI 16) &&& 31)).toInt8.toInt32))) 14 (vp_nar .byte ((d >>> ((nI 8) &&& 31)).toInt8.toInt32))) 15 (vp_nar .byte ((d >>> ((nI 0) &&& 31)).toInt8.toInt32))) 16 (vp_nar .byte ((e9 >>> ((nI 24) &&& 31)).toInt8.toInt32))) (nI 17).toNatClampNeg (vp_nar .byte ((e9 >>> ((nI 16) &&& 31)).toInt8.toInt32))))] H := hP
  have hD : va_D A [(h0, ob 12 (mfs (updG (updG (updG (updG (updG (updG (updG (updG (updG (updG (updG (updG (updG (updG (updG (updG (updG g 1 (.int (nI 1))) 1 (.int (nI 2))) 1 (.int (nI 3))) 1 (.int (nI 4))) 1 (.int (nI 5))) 1 (.int (nI 6))) 1 (.int (nI 7))) 1 (.int (nI 8))) 1 (.int (nI 9))) 1 (.int (nI 10))) 1 (.int (nI 11))) 1 (.int (nI 12))) 1 (.int (nI 13))) 1 (.int (nI 14))) 1 (.int (nI 15))) 1 (.int (nI 16))) 1 (.int (nI 17))))), ((r 0), aB E 4096 (upd (upd (upd (upd (upd (upd (upd (upd (upd (upd (upd (upd (upd (upd (upd (upd (upd (upd (fun _ => 0) 0 (vp_nar .byte ((a >>> ((nI 24) &&& 31)).toInt8.toInt32))) 1 (vp_nar .byte ((a >>> ((nI 16) &&& 31)).toInt8.toInt32))) 2 (vp_nar .byte ((a >>> ((nI 8) &&& 31)).toInt8.toInt32))) 3 (vp_nar .byte ((a >>> ((nI 0) &&& 31)).toInt8.toInt32))) 4 (vp_nar .byte ((b >>> ((nI 24) &&& 31)).toInt8.toInt32))) 5 (vp_nar .byte ((b >>> ((nI 16) &&& 31)).toInt8.toInt32))) 6 (vp_nar .byte ((b >>> ((nI 8) &&& 31)).toInt8.toInt32))) 7 (vp_nar .byte ((b >>> ((nI 0) &&& 31)).toInt8.toInt32))) 8 (vp_nar .byte ((c9 >>> ((nI 24) &&& 31)).toInt8.toInt32))) 9 (vp_nar .byte ((c9 >>> ((nI 16) &&& 31)).toInt8.toInt32))) 10 (vp_nar .byte ((c9 >>> ((nI 8) &&& 31)).toInt8.toInt32))) 11 (vp_nar .byte ((c9 >>> ((nI 0) &&& 31)).toInt8.toInt32))) 12 (vp_nar .byte ((d >>> ((nI 24) &&& 31)).toInt8.toInt32))) 13 (vp_nar .byte ((d >>> ((nI 16) &&& 31)).toInt8.toInt32))) 14 (vp_nar .byte ((d >>> ((nI 8) &&& 31)).toInt8.toInt32))) 15 (vp_nar .byte ((d >>> ((nI 0) &&& 31)).toInt8.toInt32))) 16 (vp_nar .byte ((e9 >>> ((nI 24) &&& 31)).toInt8.toInt32))) (nI 17).toNatClampNeg (vp_nar .byte ((e9 >>> ((nI 16) &&& 31)).toInt8.toInt32))))] := hD
  rw [nI_clamp (n := 17) (by decide)] at hP hD
  refine lv_aload_n hx hb dX12_feed_96 rfl (lv_at hl 2 rfl) ?_
  refine lv_dup hx hb dX12_feed_97 rfl ?_
  refine va_get (D := E.1) (ci := 12) (v := .int (nI 17)) (C := RX12) (T := TX12) (N := 116) hx hb hts iX12 hown hK hP 0 rfl rfl 1 (by decide) (hts _ wdF_RX12_258) (fun _ h9 => h9) ((mfs_get _ 1 (by decide)).trans (congrArg some (show (updG (updG (updG (updG (updG (updG (updG (updG (updG (updG (updG (updG (updG (updG (updG (updG (updG g 1 (.int (nI 1))) 1 (.int (nI 2))) 1 (.int (nI 3))) 1 (.int (nI 4))) 1 (.int (nI 5))) 1 (.int (nI 6))) 1 (.int (nI 7))) 1 (.int (nI 8))) 1 (.int (nI 9))) 1 (.int (nI 10))) 1 (.int (nI 11))) 1 (.int (nI 12))) 1 (.int (nI 13))) 1 (.int (nI 14))) 1 (.int (nI 15))) 1 (.int (nI 16))) 1 (.int (nI 17))) 1 = .int (nI 17) from rfl))) dX12_feed_98 ?_
  refine lv_iconst (v := nI 1) hx hb dX12_feed_101 (by decide) ?_
  refine lv_iadd hx hb dX12_feed_102 ?_
  rw [show ((nI 17) + (nI 1) : Int32) = nI 18 from by decide]
  refine va_put (D := E.1) (ci := 12) (v := .int (nI 18)) (ty := .int) (C := RX12) (T := TX12) (N := 116) hx hb hts iX12 tyX12 tyX12_ok nmX12 hown hK hP hD hS 0 rfl rfl 1 (by decide) (hts _ wdF_RX12_258) (fun _ h9 => h9) rfl (by decide +kernel) rfl rfl (by rw [mfs_len]; decide) dX12_feed_103 (fun H locs hP hD hS => ?_)
  have hP : va_P E.1 vwCl [(h0, ob 12 ((mfs (updG (updG (updG (updG (updG (updG (updG (updG (updG (updG (updG (updG (updG (updG (updG (updG (updG g 1 (.int (nI 1))) 1 (.int (nI 2))) 1 (.int (nI 3))) 1 (.int (nI 4))) 1 (.int (nI 5))) 1 (.int (nI 6))) 1 (.int (nI 7))) 1 (.int (nI 8))) 1 (.int (nI 9))) 1 (.int (nI 10))) 1 (.int (nI 11))) 1 (.int (nI 12))) 1 (.int (nI 13))) 1 (.int (nI 14))) 1 (.int (nI 15))) 1 (.int (nI 16))) 1 (.int (nI 17)))).set 1 (.int (nI 18)))), ((r 0), aB E 4096 (upd (upd (upd (upd (upd (upd (upd (upd (upd (upd (upd (upd (upd (upd (upd (upd (upd (upd (fun _ => 0) 0 (vp_nar .byte ((a >>> ((nI 24) &&& 31)).toInt8.toInt32))) 1 (vp_nar .byte ((a >>> ((nI 16) &&& 31)).toInt8.toInt32))) 2 (vp_nar .byte ((a >>> ((nI 8) &&& 31)).toInt8.toInt32))) 3 (vp_nar .byte ((a >>> ((nI 0) &&& 31)).toInt8.toInt32))) 4 (vp_nar .byte ((b >>> ((nI 24) &&& 31)).toInt8.toInt32))) 5 (vp_nar .byte ((b >>> ((nI 16) &&& 31)).toInt8.toInt32))) 6 (vp_nar .byte ((b >>> ((nI 8) &&& 31)).toInt8.toInt32))) 7 (vp_nar .byte ((b >>> ((nI 0) &&& 31)).toInt8.toInt32))) 8 (vp_nar .byte ((c9 >>> ((nI 24) &&& 31)).toInt8.toInt32))) 9 (vp_nar .byte ((c9 >>> ((nI 16) &&& 31)).toInt8.toInt32))) 10 (vp_nar .byte ((c9 >>> ((nI 8) &&& 31)).toInt8.toInt32))) 11 (vp_nar .byte ((c9 >>> ((nI 0) &&& 31)).toInt8.toInt32))) 12 (vp_nar .byte ((d >>> ((nI 24) &&& 31)).toInt8.toInt32))) 13 (vp_nar .byte ((d >>> ((nI 16) &&& 31)).toInt8.toInt32))) 14 (vp_nar .byte ((d >>> ((nI 8) &&& 31)).toInt8.toInt32))) 15 (vp_nar .byte ((d >>> ((nI 0) &&& 31)).toInt8.toInt32))) 16 (vp_nar .byte ((e9 >>> ((nI 24) &&& 31)).toInt8.toInt32))) 17 (vp_nar .byte ((e9 >>> ((nI 16) &&& 31)).toInt8.toInt32))))] H := hP
  have hD : va_D A [(h0, ob 12 ((mfs (updG (updG (updG (updG (updG (updG (updG (updG (updG (updG (updG (updG (updG (updG (updG (updG (updG g 1 (.int (nI 1))) 1 (.int (nI 2))) 1 (.int (nI 3))) 1 (.int (nI 4))) 1 (.int (nI 5))) 1 (.int (nI 6))) 1 (.int (nI 7))) 1 (.int (nI 8))) 1 (.int (nI 9))) 1 (.int (nI 10))) 1 (.int (nI 11))) 1 (.int (nI 12))) 1 (.int (nI 13))) 1 (.int (nI 14))) 1 (.int (nI 15))) 1 (.int (nI 16))) 1 (.int (nI 17)))).set 1 (.int (nI 18)))), ((r 0), aB E 4096 (upd (upd (upd (upd (upd (upd (upd (upd (upd (upd (upd (upd (upd (upd (upd (upd (upd (upd (fun _ => 0) 0 (vp_nar .byte ((a >>> ((nI 24) &&& 31)).toInt8.toInt32))) 1 (vp_nar .byte ((a >>> ((nI 16) &&& 31)).toInt8.toInt32))) 2 (vp_nar .byte ((a >>> ((nI 8) &&& 31)).toInt8.toInt32))) 3 (vp_nar .byte ((a >>> ((nI 0) &&& 31)).toInt8.toInt32))) 4 (vp_nar .byte ((b >>> ((nI 24) &&& 31)).toInt8.toInt32))) 5 (vp_nar .byte ((b >>> ((nI 16) &&& 31)).toInt8.toInt32))) 6 (vp_nar .byte ((b >>> ((nI 8) &&& 31)).toInt8.toInt32))) 7 (vp_nar .byte ((b >>> ((nI 0) &&& 31)).toInt8.toInt32))) 8 (vp_nar .byte ((c9 >>> ((nI 24) &&& 31)).toInt8.toInt32))) 9 (vp_nar .byte ((c9 >>> ((nI 16) &&& 31)).toInt8.toInt32))) 10 (vp_nar .byte ((c9 >>> ((nI 8) &&& 31)).toInt8.toInt32))) 11 (vp_nar .byte ((c9 >>> ((nI 0) &&& 31)).toInt8.toInt32))) 12 (vp_nar .byte ((d >>> ((nI 24) &&& 31)).toInt8.toInt32))) 13 (vp_nar .byte ((d >>> ((nI 16) &&& 31)).toInt8.toInt32))) 14 (vp_nar .byte ((d >>> ((nI 8) &&& 31)).toInt8.toInt32))) 15 (vp_nar .byte ((d >>> ((nI 0) &&& 31)).toInt8.toInt32))) 16 (vp_nar .byte ((e9 >>> ((nI 24) &&& 31)).toInt8.toInt32))) 17 (vp_nar .byte ((e9 >>> ((nI 16) &&& 31)).toInt8.toInt32))))] := hD
  rw [mfs_set _ 1 _ (by decide)] at hP hD
  refine lv_iinc (v := nI 18) (lv' := [(6, .int (nI 18)), (7, .int e9), (0, .ref h0), (1, .int a), (2, .int b), (3, .int c9), (4, .int d), (5, .int e9)]) hx hb dX12_feed_106 hl (k := 1) rfl (by decide) (by decide) rfl (fun ls hl => ?_)
  refine lv_goto (tgt := 18) hx hb dX12_feed_109 (by decide) ?_
  refine lv_iload hx hb dX12_feed_18 (lv_at hl 0 rfl) ?_
  refine lv_bipush (v := nI 20) hx hb dX12_feed_20 (by decide) ?_
  refine lv_icmp_ge (tgt := 112) hx hb dX12_feed_22 (by decide) (fun c_1012 => absurd c_1012 (by decide)) (fun c_1012 => ?_)
  refine lv_iload hx hb dX12_feed_25 (lv_at hl 0 rfl) ?_
  refine lv_iconst (v := nI 4) hx hb dX12_feed_27 (by decide) ?_
  refine lv_icmp_ge (tgt := 35) hx hb dX12_feed_28 (by decide) (fun c_1013 => ?_) (fun c_1013 => absurd (by decide) c_1013)
  refine lv_iload hx hb dX12_feed_35 (lv_at hl 0 rfl) ?_
  refine lv_bipush (v := nI 8) hx hb dX12_feed_37 (by decide) ?_
  refine lv_icmp_ge (tgt := 46) hx hb dX12_feed_39 (by decide) (fun c_1014 => ?_) (fun c_1014 => absurd (by decide) c_1014)
  refine lv_iload hx hb dX12_feed_46 (lv_at hl 0 rfl) ?_
  refine lv_bipush (v := nI 12) hx hb dX12_feed_48 (by decide) ?_
  refine lv_icmp_ge (tgt := 57) hx hb dX12_feed_50 (by decide) (fun c_1015 => ?_) (fun c_1015 => absurd (by decide) c_1015)
  refine lv_iload hx hb dX12_feed_57 (lv_at hl 0 rfl) ?_
  refine lv_bipush (v := nI 16) hx hb dX12_feed_59 (by decide) ?_
  refine lv_icmp_ge (tgt := 69) hx hb dX12_feed_61 (by decide) (fun c_1016 => ?_) (fun c_1016 => absurd (by decide) c_1016)
  refine lv_iload hx hb dX12_feed_69 (lv_at hl 7 rfl) ?_
  refine lv_istore (lv' := [(7, .int e9), (6, .int (nI 18)), (0, .ref h0), (1, .int a), (2, .int b), (3, .int c9), (4, .int d), (5, .int e9)]) hx hb dX12_feed_71 hl (by decide) rfl (fun ls hl => ?_)
  refine lv_aload_n hx hb dX12_feed_73 rfl (lv_at hl 2 rfl) ?_
  refine va_get (D := E.1) (ci := 12) (v := .ref (r 0)) (C := RX12) (T := TX12) (N := 116) hx hb hts iX12 hown hK hP 0 rfl rfl 0 (by decide) (hts _ wdF_RX12_7) (fun _ h9 => h9) ((mfs_get _ 0 (by decide)).trans (congrArg some (show (updG (updG (updG (updG (updG (updG (updG (updG (updG (updG (updG (updG (updG (updG (updG (updG (updG (updG g 1 (.int (nI 1))) 1 (.int (nI 2))) 1 (.int (nI 3))) 1 (.int (nI 4))) 1 (.int (nI 5))) 1 (.int (nI 6))) 1 (.int (nI 7))) 1 (.int (nI 8))) 1 (.int (nI 9))) 1 (.int (nI 10))) 1 (.int (nI 11))) 1 (.int (nI 12))) 1 (.int (nI 13))) 1 (.int (nI 14))) 1 (.int (nI 15))) 1 (.int (nI 16))) 1 (.int (nI 17))) 1 (.int (nI 18))) 0 = .ref (r 0) from (hR 0 rfl)))) dX12_feed_74 ?_
  refine lv_aload_n hx hb dX12_feed_77 rfl (lv_at hl 2 rfl) ?_
  refine va_get (D := E.1) (ci := 12) (v := .int (nI 18)) (C := RX12) (T := TX12) (N := 116) hx hb hts iX12 hown hK hP 0 rfl rfl 1 (by decide) (hts _ wdF_RX12_258) (fun _ h9 => h9) ((mfs_get _ 1 (by decide)).trans (congrArg some (show (updG (updG (updG (updG (updG (updG (updG (updG (updG (updG (updG (updG (updG (updG (updG (updG (updG (updG g 1 (.int (nI 1))) 1 (.int (nI 2))) 1 (.int (nI 3))) 1 (.int (nI 4))) 1 (.int (nI 5))) 1 (.int (nI 6))) 1 (.int (nI 7))) 1 (.int (nI 8))) 1 (.int (nI 9))) 1 (.int (nI 10))) 1 (.int (nI 11))) 1 (.int (nI 12))) 1 (.int (nI 13))) 1 (.int (nI 14))) 1 (.int (nI 15))) 1 (.int (nI 16))) 1 (.int (nI 17))) 1 (.int (nI 18))) 1 = .int (nI 18) from rfl))) dX12_feed_78 ?_
  refine lv_iload hx hb dX12_feed_81 (lv_at hl 0 rfl) ?_
  refine lv_bipush (v := nI 24) hx hb dX12_feed_83 (by decide) ?_
  refine lv_bipush (v := nI 8) hx hb dX12_feed_85 (by decide) ?_
  refine lv_iload hx hb dX12_feed_87 (lv_at hl 1 rfl) ?_
  refine lv_iconst (v := nI 3) hx hb dX12_feed_89 (by decide) ?_
  refine lv_iand hx hb dX12_feed_90 ?_
  rw [show ((nI 18) &&& (nI 3) : Int32) = nI 2 from by decide]
  refine lv_imul hx hb dX12_feed_91 ?_
  rw [show ((nI 8) * (nI 2) : Int32) = nI 16 from by decide]
  refine lv_isub hx hb dX12_feed_92 ?_
  rw [show ((nI 24) - (nI 16) : Int32) = nI 8 from by decide]
  refine lv_ishr hx hb dX12_feed_93 ?_
  refine lv_i2b hx hb dX12_feed_94 rfl ?_
  refine va_bast hx hb hK hP hD hS 1 0 rfl rfl (vp_in_nI (by decide) (by decide)) dX12_feed_95 (fun H locs hP hD hS => ?_)
  have hP : va_P E.1 vwCl [(h0, ob 12 (mfs (updG (updG (updG (updG (updG (updG (updG (updG (updG (updG (updG (updG (updG (updG (updG (updG (updG (updG g 1 (.int (nI 1))) 1 (.int (nI 2))) 1 (.int (nI 3))) 1 (.int (nI 4))) 1 (.int (nI 5))) 1 (.int (nI 6))) 1 (.int (nI 7))) 1 (.int (nI 8))) 1 (.int (nI 9))) 1 (.int (nI 10))) 1 (.int (nI 11))) 1 (.int (nI 12))) 1 (.int (nI 13))) 1 (.int (nI 14))) 1 (.int (nI 15))) 1 (.int (nI 16))) 1 (.int (nI 17))) 1 (.int (nI 18))))), ((r 0), aB E 4096 (upd (upd (upd (upd (upd (upd (upd (upd (upd (upd (upd (upd (upd (upd (upd (upd (upd (upd (upd (fun _ => 0) 0 (vp_nar .byte ((a >>> ((nI 24) &&& 31)).toInt8.toInt32))) 1 (vp_nar .byte ((a >>> ((nI 16) &&& 31)).toInt8.toInt32))) 2 (vp_nar .byte ((a >>> ((nI 8) &&& 31)).toInt8.toInt32))) 3 (vp_nar .byte ((a >>> ((nI 0) &&& 31)).toInt8.toInt32))) 4 (vp_nar .byte ((b >>> ((nI 24) &&& 31)).toInt8.toInt32))) 5 (vp_nar .byte ((b >>> ((nI 16) &&& 31)).toInt8.toInt32))) 6 (vp_nar .byte ((b >>> ((nI 8) &&& 31)).toInt8.toInt32))) 7 (vp_nar .byte ((b >>> ((nI 0) &&& 31)).toInt8.toInt32))) 8 (vp_nar .byte ((c9 >>> ((nI 24) &&& 31)).toInt8.toInt32))) 9 (vp_nar .byte ((c9 >>> ((nI 16) &&& 31)).toInt8.toInt32))) 10 (vp_nar .byte ((c9 >>> ((nI 8) &&& 31)).toInt8.toInt32))) 11 (vp_nar .byte ((c9 >>> ((nI 0) &&& 31)).toInt8.toInt32))) 12 (vp_nar .byte ((d >>> ((nI 24) &&& 31)).toInt8.toInt32))) 13 (vp_nar .byte ((d >>> ((nI 16) &&& 31)).toInt8.toInt32))) 14 (vp_nar .byte ((d >>> ((nI 8) &&& 31)).toInt8.toInt32))) 15 (vp_nar .byte ((d >>> ((nI 0) &&& 31)).toInt8.toInt32))) 16 (vp_nar .byte ((e9 >>> ((nI 24) &&& 31)).toInt8.toInt32))) 17 (vp_nar .byte ((e9 >>> ((nI 16) &&& 31)).toInt8.toInt32))) (nI 18).toNatClampNeg (vp_nar .byte ((e9 >>> ((nI 8) &&& 31)).toInt8.toInt32))))] H := hP
  have hD : va_D A [(h0, ob 12 (mfs (updG (updG (updG (updG (updG (updG (updG (updG (updG (updG (updG (updG (updG (updG (updG (updG (updG (updG g 1 (.int (nI 1))) 1 (.int (nI 2))) 1 (.int (nI 3))) 1 (.int (nI 4))) 1 (.int (nI 5))) 1 (.int (nI 6))) 1 (.int (nI 7))) 1 (.int (nI 8))) 1 (.int (nI 9))) 1 (.int (nI 10))) 1 (.int (nI 11))) 1 (.int (nI 12))) 1 (.int (nI 13))) 1 (.int (nI 14))) 1 (.int (nI 15))) 1 (.int (nI 16))) 1 (.int (nI 17))) 1 (.int (nI 18))))), ((r 0), aB E 4096 (upd (upd (upd (upd (upd (upd (upd (upd (upd (upd (upd (upd (upd (upd (upd (upd (upd (upd (upd (fun _ => 0) 0 (vp_nar .byte ((a >>> ((nI 24) &&& 31)).toInt8.toInt32))) 1 (vp_nar .byte ((a >>> ((nI 16) &&& 31)).toInt8.toInt32))) 2 (vp_nar .byte ((a >>> ((nI 8) &&& 31)).toInt8.toInt32))) 3 (vp_nar .byte ((a >>> ((nI 0) &&& 31)).toInt8.toInt32))) 4 (vp_nar .byte ((b >>> ((nI 24) &&& 31)).toInt8.toInt32))) 5 (vp_nar .byte ((b >>> ((nI 16) &&& 31)).toInt8.toInt32))) 6 (vp_nar .byte ((b >>> ((nI 8) &&& 31)).toInt8.toInt32))) 7 (vp_nar .byte ((b >>> ((nI 0) &&& 31)).toInt8.toInt32))) 8 (vp_nar .byte ((c9 >>> ((nI 24) &&& 31)).toInt8.toInt32))) 9 (vp_nar .byte ((c9 >>> ((nI 16) &&& 31)).toInt8.toInt32))) 10 (vp_nar .byte ((c9 >>> ((nI 8) &&& 31)).toInt8.toInt32))) 11 (vp_nar .byte ((c9 >>> ((nI 0) &&& 31)).toInt8.toInt32))) 12 (vp_nar .byte ((d >>> ((nI 24) &&& 31)).toInt8.toInt32))) 13 (vp_nar .byte ((d >>> ((nI 16) &&& 31)).toInt8.toInt32))) 14 (vp_nar .byte ((d >>> ((nI 8) &&& 31)).toInt8.toInt32))) 15 (vp_nar .byte ((d >>> ((nI 0) &&& 31)).toInt8.toInt32))) 16 (vp_nar .byte ((e9 >>> ((nI 24) &&& 31)).toInt8.toInt32))) 17 (vp_nar .byte ((e9 >>> ((nI 16) &&& 31)).toInt8.toInt32))) (nI 18).toNatClampNeg (vp_nar .byte ((e9 >>> ((nI 8) &&& 31)).toInt8.toInt32))))] := hD
  rw [nI_clamp (n := 18) (by decide)] at hP hD
  refine lv_aload_n hx hb dX12_feed_96 rfl (lv_at hl 2 rfl) ?_
  refine lv_dup hx hb dX12_feed_97 rfl ?_
  refine va_get (D := E.1) (ci := 12) (v := .int (nI 18)) (C := RX12) (T := TX12) (N := 116) hx hb hts iX12 hown hK hP 0 rfl rfl 1 (by decide) (hts _ wdF_RX12_258) (fun _ h9 => h9) ((mfs_get _ 1 (by decide)).trans (congrArg some (show (updG (updG (updG (updG (updG (updG (updG (updG (updG (updG (updG (updG (updG (updG (updG (updG (updG (updG g 1 (.int (nI 1))) 1 (.int (nI 2))) 1 (.int (nI 3))) 1 (.int (nI 4))) 1 (.int (nI 5))) 1 (.int (nI 6))) 1 (.int (nI 7))) 1 (.int (nI 8))) 1 (.int (nI 9))) 1 (.int (nI 10))) 1 (.int (nI 11))) 1 (.int (nI 12))) 1 (.int (nI 13))) 1 (.int (nI 14))) 1 (.int (nI 15))) 1 (.int (nI 16))) 1 (.int (nI 17))) 1 (.int (nI 18))) 1 = .int (nI 18) from rfl))) dX12_feed_98 ?_
  refine lv_iconst (v := nI 1) hx hb dX12_feed_101 (by decide) ?_
  refine lv_iadd hx hb dX12_feed_102 ?_
  rw [show ((nI 18) + (nI 1) : Int32) = nI 19 from by decide]
  refine va_put (D := E.1) (ci := 12) (v := .int (nI 19)) (ty := .int) (C := RX12) (T := TX12) (N := 116) hx hb hts iX12 tyX12 tyX12_ok nmX12 hown hK hP hD hS 0 rfl rfl 1 (by decide) (hts _ wdF_RX12_258) (fun _ h9 => h9) rfl (by decide +kernel) rfl rfl (by rw [mfs_len]; decide) dX12_feed_103 (fun H locs hP hD hS => ?_)
  have hP : va_P E.1 vwCl [(h0, ob 12 ((mfs (updG (updG (updG (updG (updG (updG (updG (updG (updG (updG (updG (updG (updG (updG (updG (updG (updG (updG g 1 (.int (nI 1))) 1 (.int (nI 2))) 1 (.int (nI 3))) 1 (.int (nI 4))) 1 (.int (nI 5))) 1 (.int (nI 6))) 1 (.int (nI 7))) 1 (.int (nI 8))) 1 (.int (nI 9))) 1 (.int (nI 10))) 1 (.int (nI 11))) 1 (.int (nI 12))) 1 (.int (nI 13))) 1 (.int (nI 14))) 1 (.int (nI 15))) 1 (.int (nI 16))) 1 (.int (nI 17))) 1 (.int (nI 18)))).set 1 (.int (nI 19)))), ((r 0), aB E 4096 (upd (upd (upd (upd (upd (upd (upd (upd (upd (upd (upd (upd (upd (upd (upd (upd (upd (upd (upd (fun _ => 0) 0 (vp_nar .byte ((a >>> ((nI 24) &&& 31)).toInt8.toInt32))) 1 (vp_nar .byte ((a >>> ((nI 16) &&& 31)).toInt8.toInt32))) 2 (vp_nar .byte ((a >>> ((nI 8) &&& 31)).toInt8.toInt32))) 3 (vp_nar .byte ((a >>> ((nI 0) &&& 31)).toInt8.toInt32))) 4 (vp_nar .byte ((b >>> ((nI 24) &&& 31)).toInt8.toInt32))) 5 (vp_nar .byte ((b >>> ((nI 16) &&& 31)).toInt8.toInt32))) 6 (vp_nar .byte ((b >>> ((nI 8) &&& 31)).toInt8.toInt32))) 7 (vp_nar .byte ((b >>> ((nI 0) &&& 31)).toInt8.toInt32))) 8 (vp_nar .byte ((c9 >>> ((nI 24) &&& 31)).toInt8.toInt32))) 9 (vp_nar .byte ((c9 >>> ((nI 16) &&& 31)).toInt8.toInt32))) 10 (vp_nar .byte ((c9 >>> ((nI 8) &&& 31)).toInt8.toInt32))) 11 (vp_nar .byte ((c9 >>> ((nI 0) &&& 31)).toInt8.toInt32))) 12 (vp_nar .byte ((d >>> ((nI 24) &&& 31)).toInt8.toInt32))) 13 (vp_nar .byte ((d >>> ((nI 16) &&& 31)).toInt8.toInt32))) 14 (vp_nar .byte ((d >>> ((nI 8) &&& 31)).toInt8.toInt32))) 15 (vp_nar .byte ((d >>> ((nI 0) &&& 31)).toInt8.toInt32))) 16 (vp_nar .byte ((e9 >>> ((nI 24) &&& 31)).toInt8.toInt32))) 17 (vp_nar .byte ((e9 >>> ((nI 16) &&& 31)).toInt8.toInt32))) 18 (vp_nar .byte ((e9 >>> ((nI 8) &&& 31)).toInt8.toInt32))))] H := hP
  have hD : va_D A [(h0, ob 12 ((mfs (updG (updG (updG (updG (updG (updG (updG (updG (updG (updG (updG (updG (updG (updG (updG (updG (updG (updG g 1 (.int (nI 1))) 1 (.int (nI 2))) 1 (.int (nI 3))) 1 (.int (nI 4))) 1 (.int (nI 5))) 1 (.int (nI 6))) 1 (.int (nI 7))) 1 (.int (nI 8))) 1 (.int (nI 9))) 1 (.int (nI 10))) 1 (.int (nI 11))) 1 (.int (nI 12))) 1 (.int (nI 13))) 1 (.int (nI 14))) 1 (.int (nI 15))) 1 (.int (nI 16))) 1 (.int (nI 17))) 1 (.int (nI 18)))).set 1 (.int (nI 19)))), ((r 0), aB E 4096 (upd (upd (upd (upd (upd (upd (upd (upd (upd (upd (upd (upd (upd (upd (upd (upd (upd (upd (upd (fun _ => 0) 0 (vp_nar .byte ((a >>> ((nI 24) &&& 31)).toInt8.toInt32))) 1 (vp_nar .byte ((a >>> ((nI 16) &&& 31)).toInt8.toInt32))) 2 (vp_nar .byte ((a >>> ((nI 8) &&& 31)).toInt8.toInt32))) 3 (vp_nar .byte ((a >>> ((nI 0) &&& 31)).toInt8.toInt32))) 4 (vp_nar .byte ((b >>> ((nI 24) &&& 31)).toInt8.toInt32))) 5 (vp_nar .byte ((b >>> ((nI 16) &&& 31)).toInt8.toInt32))) 6 (vp_nar .byte ((b >>> ((nI 8) &&& 31)).toInt8.toInt32))) 7 (vp_nar .byte ((b >>> ((nI 0) &&& 31)).toInt8.toInt32))) 8 (vp_nar .byte ((c9 >>> ((nI 24) &&& 31)).toInt8.toInt32))) 9 (vp_nar .byte ((c9 >>> ((nI 16) &&& 31)).toInt8.toInt32))) 10 (vp_nar .byte ((c9 >>> ((nI 8) &&& 31)).toInt8.toInt32))) 11 (vp_nar .byte ((c9 >>> ((nI 0) &&& 31)).toInt8.toInt32))) 12 (vp_nar .byte ((d >>> ((nI 24) &&& 31)).toInt8.toInt32))) 13 (vp_nar .byte ((d >>> ((nI 16) &&& 31)).toInt8.toInt32))) 14 (vp_nar .byte ((d >>> ((nI 8) &&& 31)).toInt8.toInt32))) 15 (vp_nar .byte ((d >>> ((nI 0) &&& 31)).toInt8.toInt32))) 16 (vp_nar .byte ((e9 >>> ((nI 24) &&& 31)).toInt8.toInt32))) 17 (vp_nar .byte ((e9 >>> ((nI 16) &&& 31)).toInt8.toInt32))) 18 (vp_nar .byte ((e9 >>> ((nI 8) &&& 31)).toInt8.toInt32))))] := hD
  rw [mfs_set _ 1 _ (by decide)] at hP hD
  refine lv_iinc (v := nI 19) (lv' := [(6, .int (nI 19)), (7, .int e9), (0, .ref h0), (1, .int a), (2, .int b), (3, .int c9), (4, .int d), (5, .int e9)]) hx hb dX12_feed_106 hl (k := 1) rfl (by decide) (by decide) rfl (fun ls hl => ?_)
  refine lv_goto (tgt := 18) hx hb dX12_feed_109 (by decide) ?_
  refine lv_iload hx hb dX12_feed_18 (lv_at hl 0 rfl) ?_
  refine lv_bipush (v := nI 20) hx hb dX12_feed_20 (by decide) ?_
  refine lv_icmp_ge (tgt := 112) hx hb dX12_feed_22 (by decide) (fun c_1017 => absurd c_1017 (by decide)) (fun c_1017 => ?_)
  refine lv_iload hx hb dX12_feed_25 (lv_at hl 0 rfl) ?_
  refine lv_iconst (v := nI 4) hx hb dX12_feed_27 (by decide) ?_
  refine lv_icmp_ge (tgt := 35) hx hb dX12_feed_28 (by decide) (fun c_1018 => ?_) (fun c_1018 => absurd (by decide) c_1018)
  refine lv_iload hx hb dX12_feed_35 (lv_at hl 0 rfl) ?_
  refine lv_bipush (v := nI 8) hx hb dX12_feed_37 (by decide) ?_
  refine lv_icmp_ge (tgt := 46) hx hb dX12_feed_39 (by decide) (fun c_1019 => ?_) (fun c_1019 => absurd (by decide) c_1019)
  refine lv_iload hx hb dX12_feed_46 (lv_at hl 0 rfl) ?_
  refine lv_bipush (v := nI 12) hx hb dX12_feed_48 (by decide) ?_
  refine lv_icmp_ge (tgt := 57) hx hb dX12_feed_50 (by decide) (fun c_1020 => ?_) (fun c_1020 => absurd (by decide) c_1020)
  refine lv_iload hx hb dX12_feed_57 (lv_at hl 0 rfl) ?_
  refine lv_bipush (v := nI 16) hx hb dX12_feed_59 (by decide) ?_
  refine lv_icmp_ge (tgt := 69) hx hb dX12_feed_61 (by decide) (fun c_1021 => ?_) (fun c_1021 => absurd (by decide) c_1021)
  refine lv_iload hx hb dX12_feed_69 (lv_at hl 7 rfl) ?_
  refine lv_istore (lv' := [(7, .int e9), (6, .int (nI 19)), (0, .ref h0), (1, .int a), (2, .int b), (3, .int c9), (4, .int d), (5, .int e9)]) hx hb dX12_feed_71 hl (by decide) rfl (fun ls hl => ?_)
  refine lv_aload_n hx hb dX12_feed_73 rfl (lv_at hl 2 rfl) ?_
  refine va_get (D := E.1) (ci := 12) (v := .ref (r 0)) (C := RX12) (T := TX12) (N := 116) hx hb hts iX12 hown hK hP 0 rfl rfl 0 (by decide) (hts _ wdF_RX12_7) (fun _ h9 => h9) ((mfs_get _ 0 (by decide)).trans (congrArg some (show (updG (updG (updG (updG (updG (updG (updG (updG (updG (updG (updG (updG (updG (updG (updG (updG (updG (updG (updG g 1 (.int (nI 1))) 1 (.int (nI 2))) 1 (.int (nI 3))) 1 (.int (nI 4))) 1 (.int (nI 5))) 1 (.int (nI 6))) 1 (.int (nI 7))) 1 (.int (nI 8))) 1 (.int (nI 9))) 1 (.int (nI 10))) 1 (.int (nI 11))) 1 (.int (nI 12))) 1 (.int (nI 13))) 1 (.int (nI 14))) 1 (.int (nI 15))) 1 (.int (nI 16))) 1 (.int (nI 17))) 1 (.int (nI 18))) 1 (.int (nI 19))) 0 = .ref (r 0) from (hR 0 rfl)))) dX12_feed_74 ?_
  refine lv_aload_n hx hb dX12_feed_77 rfl (lv_at hl 2 rfl) ?_
  refine va_get (D := E.1) (ci := 12) (v := .int (nI 19)) (C := RX12) (T := TX12) (N := 116) hx hb hts iX12 hown hK hP 0 rfl rfl 1 (by decide) (hts _ wdF_RX12_258) (fun _ h9 => h9) ((mfs_get _ 1 (by decide)).trans (congrArg some (show (updG (updG (updG (updG (updG (updG (updG (updG (updG (updG (updG (updG (updG (updG (updG (updG (updG (updG (updG g 1 (.int (nI 1))) 1 (.int (nI 2))) 1 (.int (nI 3))) 1 (.int (nI 4))) 1 (.int (nI 5))) 1 (.int (nI 6))) 1 (.int (nI 7))) 1 (.int (nI 8))) 1 (.int (nI 9))) 1 (.int (nI 10))) 1 (.int (nI 11))) 1 (.int (nI 12))) 1 (.int (nI 13))) 1 (.int (nI 14))) 1 (.int (nI 15))) 1 (.int (nI 16))) 1 (.int (nI 17))) 1 (.int (nI 18))) 1 (.int (nI 19))) 1 = .int (nI 19) from rfl))) dX12_feed_78 ?_
  refine lv_iload hx hb dX12_feed_81 (lv_at hl 0 rfl) ?_
  refine lv_bipush (v := nI 24) hx hb dX12_feed_83 (by decide) ?_
  refine lv_bipush (v := nI 8) hx hb dX12_feed_85 (by decide) ?_
  refine lv_iload hx hb dX12_feed_87 (lv_at hl 1 rfl) ?_
  refine lv_iconst (v := nI 3) hx hb dX12_feed_89 (by decide) ?_
  refine lv_iand hx hb dX12_feed_90 ?_
  rw [show ((nI 19) &&& (nI 3) : Int32) = nI 3 from by decide]
  refine lv_imul hx hb dX12_feed_91 ?_
  rw [show ((nI 8) * (nI 3) : Int32) = nI 24 from by decide]
  refine lv_isub hx hb dX12_feed_92 ?_
  rw [show ((nI 24) - (nI 24) : Int32) = nI 0 from by decide]
  refine lv_ishr hx hb dX12_feed_93 ?_
  refine lv_i2b hx hb dX12_feed_94 rfl ?_
  refine va_bast hx hb hK hP hD hS 1 0 rfl rfl (vp_in_nI (by decide) (by decide)) dX12_feed_95 (fun H locs hP hD hS => ?_)
  have hP : va_P E.1 vwCl [(h0, ob 12 (mfs (updG (updG (updG (updG (updG (updG (updG (updG (updG (updG (updG (updG (updG (updG (updG (updG (updG (updG (updG g 1 (.int (nI 1))) 1 (.int (nI 2))) 1 (.int (nI 3))) 1 (.int (nI 4))) 1 (.int (nI 5))) 1 (.int (nI 6))) 1 (.int (nI 7))) 1 (.int (nI 8))) 1 (.int (nI 9))) 1 (.int (nI 10))) 1 (.int (nI 11))) 1 (.int (nI 12))) 1 (.int (nI 13))) 1 (.int (nI 14))) 1 (.int (nI 15))) 1 (.int (nI 16))) 1 (.int (nI 17))) 1 (.int (nI 18))) 1 (.int (nI 19))))), ((r 0), aB E 4096 (upd (upd (upd (upd (upd (upd (upd (upd (upd (upd (upd (upd (upd (upd (upd (upd (upd (upd (upd (upd (fun _ => 0) 0 (vp_nar .byte ((a >>> ((nI 24) &&& 31)).toInt8.toInt32))) 1 (vp_nar .byte ((a >>> ((nI 16) &&& 31)).toInt8.toInt32))) 2 (vp_nar .byte ((a >>> ((nI 8) &&& 31)).toInt8.toInt32))) 3 (vp_nar .byte ((a >>> ((nI 0) &&& 31)).toInt8.toInt32))) 4 (vp_nar .byte ((b >>> ((nI 24) &&& 31)).toInt8.toInt32))) 5 (vp_nar .byte ((b >>> ((nI 16) &&& 31)).toInt8.toInt32))) 6 (vp_nar .byte ((b >>> ((nI 8) &&& 31)).toInt8.toInt32))) 7 (vp_nar .byte ((b >>> ((nI 0) &&& 31)).toInt8.toInt32))) 8 (vp_nar .byte ((c9 >>> ((nI 24) &&& 31)).toInt8.toInt32))) 9 (vp_nar .byte ((c9 >>> ((nI 16) &&& 31)).toInt8.toInt32))) 10 (vp_nar .byte ((c9 >>> ((nI 8) &&& 31)).toInt8.toInt32))) 11 (vp_nar .byte ((c9 >>> ((nI 0) &&& 31)).toInt8.toInt32))) 12 (vp_nar .byte ((d >>> ((nI 24) &&& 31)).toInt8.toInt32))) 13 (vp_nar .byte ((d >>> ((nI 16) &&& 31)).toInt8.toInt32))) 14 (vp_nar .byte ((d >>> ((nI 8) &&& 31)).toInt8.toInt32))) 15 (vp_nar .byte ((d >>> ((nI 0) &&& 31)).toInt8.toInt32))) 16 (vp_nar .byte ((e9 >>> ((nI 24) &&& 31)).toInt8.toInt32))) 17 (vp_nar .byte ((e9 >>> ((nI 16) &&& 31)).toInt8.toInt32))) 18 (vp_nar .byte ((e9 >>> ((nI 8) &&& 31)).toInt8.toInt32))) (nI 19).toNatClampNeg (vp_nar .byte ((e9 >>> ((nI 0) &&& 31)).toInt8.toInt32))))] H := hP
  have hD : va_D A [(h0, ob 12 (mfs (updG (updG (updG (updG (updG (updG (updG (updG (updG (updG (updG (updG (updG (updG (updG (updG (updG (updG (updG g 1 (.int (nI 1))) 1 (.int (nI 2))) 1 (.int (nI 3))) 1 (.int (nI 4))) 1 (.int (nI 5))) 1 (.int (nI 6))) 1 (.int (nI 7))) 1 (.int (nI 8))) 1 (.int (nI 9))) 1 (.int (nI 10))) 1 (.int (nI 11))) 1 (.int (nI 12))) 1 (.int (nI 13))) 1 (.int (nI 14))) 1 (.int (nI 15))) 1 (.int (nI 16))) 1 (.int (nI 17))) 1 (.int (nI 18))) 1 (.int (nI 19))))), ((r 0), aB E 4096 (upd (upd (upd (upd (upd (upd (upd (upd (upd (upd (upd (upd (upd (upd (upd (upd (upd (upd (upd (upd (fun _ => 0) 0 (vp_nar .byte ((a >>> ((nI 24) &&& 31)).toInt8.toInt32))) 1 (vp_nar .byte ((a >>> ((nI 16) &&& 31)).toInt8.toInt32))) 2 (vp_nar .byte ((a >>> ((nI 8) &&& 31)).toInt8.toInt32))) 3 (vp_nar .byte ((a >>> ((nI 0) &&& 31)).toInt8.toInt32))) 4 (vp_nar .byte ((b >>> ((nI 24) &&& 31)).toInt8.toInt32))) 5 (vp_nar .byte ((b >>> ((nI 16) &&& 31)).toInt8.toInt32))) 6 (vp_nar .byte ((b >>> ((nI 8) &&& 31)).toInt8.toInt32))) 7 (vp_nar .byte ((b >>> ((nI 0) &&& 31)).toInt8.toInt32))) 8 (vp_nar .byte ((c9 >>> ((nI 24) &&& 31)).toInt8.toInt32))) 9 (vp_nar .byte ((c9 >>> ((nI 16) &&& 31)).toInt8.toInt32))) 10 (vp_nar .byte ((c9 >>> ((nI 8) &&& 31)).toInt8.toInt32))) 11 (vp_nar .byte ((c9 >>> ((nI 0) &&& 31)).toInt8.toInt32))) 12 (vp_nar .byte ((d >>> ((nI 24) &&& 31)).toInt8.toInt32))) 13 (vp_nar .byte ((d >>> ((nI 16) &&& 31)).toInt8.toInt32))) 14 (vp_nar .byte ((d >>> ((nI 8) &&& 31)).toInt8.toInt32))) 15 (vp_nar .byte ((d >>> ((nI 0) &&& 31)).toInt8.toInt32))) 16 (vp_nar .byte ((e9 >>> ((nI 24) &&& 31)).toInt8.toInt32))) 17 (vp_nar .byte ((e9 >>> ((nI 16) &&& 31)).toInt8.toInt32))) 18 (vp_nar .byte ((e9 >>> ((nI 8) &&& 31)).toInt8.toInt32))) (nI 19).toNatClampNeg (vp_nar .byte ((e9 >>> ((nI 0) &&& 31)).toInt8.toInt32))))] := hD
  rw [nI_clamp (n := 19) (by decide)] at hP hD
  refine lv_aload_n hx hb dX12_feed_96 rfl (lv_at hl 2 rfl) ?_
  refine lv_dup hx hb dX12_feed_97 rfl ?_
  refine va_get (D := E.1) (ci := 12) (v := .int (nI 19)) (C := RX12) (T := TX12) (N := 116) hx hb hts iX12 hown hK hP 0 rfl rfl 1 (by decide) (hts _ wdF_RX12_258) (fun _ h9 => h9) ((mfs_get _ 1 (by decide)).trans (congrArg some (show (updG (updG (updG (updG (updG (updG (updG (updG (updG (updG (updG (updG (updG (updG (updG (updG (updG (updG (updG g 1 (.int (nI 1))) 1 (.int (nI 2))) 1 (.int (nI 3))) 1 (.int (nI 4))) 1 (.int (nI 5))) 1 (.int (nI 6))) 1 (.int (nI 7))) 1 (.int (nI 8))) 1 (.int (nI 9))) 1 (.int (nI 10))) 1 (.int (nI 11))) 1 (.int (nI 12))) 1 (.int (nI 13))) 1 (.int (nI 14))) 1 (.int (nI 15))) 1 (.int (nI 16))) 1 (.int (nI 17))) 1 (.int (nI 18))) 1 (.int (nI 19))) 1 = .int (nI 19) from rfl))) dX12_feed_98 ?_
  refine lv_iconst (v := nI 1) hx hb dX12_feed_101 (by decide) ?_
  refine lv_iadd hx hb dX12_feed_102 ?_
  rw [show ((nI 19) + (nI 1) : Int32) = nI 20 from by decide]
  refine va_put (D := E.1) (ci := 12) (v := .int (nI 20)) (ty := .int) (C := RX12) (T := TX12) (N := 116) hx hb hts iX12 tyX12 tyX12_ok nmX12 hown hK hP hD hS 0 rfl rfl 1 (by decide) (hts _ wdF_RX12_258) (fun _ h9 => h9) rfl (by decide +kernel) rfl rfl (by rw [mfs_len]; decide) dX12_feed_103 (fun H locs hP hD hS => ?_)
  have hP : va_P E.1 vwCl [(h0, ob 12 ((mfs (updG (updG (updG (updG (updG (updG (updG (updG (updG (updG (updG (updG (updG (updG (updG (updG (updG (updG (updG g 1 (.int (nI 1))) 1 (.int (nI 2))) 1 (.int (nI 3))) 1 (.int (nI 4))) 1 (.int (nI 5))) 1 (.int (nI 6))) 1 (.int (nI 7))) 1 (.int (nI 8))) 1 (.int (nI 9))) 1 (.int (nI 10))) 1 (.int (nI 11))) 1 (.int (nI 12))) 1 (.int (nI 13))) 1 (.int (nI 14))) 1 (.int (nI 15))) 1 (.int (nI 16))) 1 (.int (nI 17))) 1 (.int (nI 18))) 1 (.int (nI 19)))).set 1 (.int (nI 20)))), ((r 0), aB E 4096 (upd (upd (upd (upd (upd (upd (upd (upd (upd (upd (upd (upd (upd (upd (upd (upd (upd (upd (upd (upd (fun _ => 0) 0 (vp_nar .byte ((a >>> ((nI 24) &&& 31)).toInt8.toInt32))) 1 (vp_nar .byte ((a >>> ((nI 16) &&& 31)).toInt8.toInt32))) 2 (vp_nar .byte ((a >>> ((nI 8) &&& 31)).toInt8.toInt32))) 3 (vp_nar .byte ((a >>> ((nI 0) &&& 31)).toInt8.toInt32))) 4 (vp_nar .byte ((b >>> ((nI 24) &&& 31)).toInt8.toInt32))) 5 (vp_nar .byte ((b >>> ((nI 16) &&& 31)).toInt8.toInt32))) 6 (vp_nar .byte ((b >>> ((nI 8) &&& 31)).toInt8.toInt32))) 7 (vp_nar .byte ((b >>> ((nI 0) &&& 31)).toInt8.toInt32))) 8 (vp_nar .byte ((c9 >>> ((nI 24) &&& 31)).toInt8.toInt32))) 9 (vp_nar .byte ((c9 >>> ((nI 16) &&& 31)).toInt8.toInt32))) 10 (vp_nar .byte ((c9 >>> ((nI 8) &&& 31)).toInt8.toInt32))) 11 (vp_nar .byte ((c9 >>> ((nI 0) &&& 31)).toInt8.toInt32))) 12 (vp_nar .byte ((d >>> ((nI 24) &&& 31)).toInt8.toInt32))) 13 (vp_nar .byte ((d >>> ((nI 16) &&& 31)).toInt8.toInt32))) 14 (vp_nar .byte ((d >>> ((nI 8) &&& 31)).toInt8.toInt32))) 15 (vp_nar .byte ((d >>> ((nI 0) &&& 31)).toInt8.toInt32))) 16 (vp_nar .byte ((e9 >>> ((nI 24) &&& 31)).toInt8.toInt32))) 17 (vp_nar .byte ((e9 >>> ((nI 16) &&& 31)).toInt8.toInt32))) 18 (vp_nar .byte ((e9 >>> ((nI 8) &&& 31)).toInt8.toInt32))) 19 (vp_nar .byte ((e9 >>> ((nI 0) &&& 31)).toInt8.toInt32))))] H := hP
  have hD : va_D A [(h0, ob 12 ((mfs (updG (updG (updG (updG (updG (updG (updG (updG (updG (updG (updG (updG (updG (updG (updG (updG (updG (updG (updG g 1 (.int (nI 1))) 1 (.int (nI 2))) 1 (.int (nI 3))) 1 (.int (nI 4))) 1 (.int (nI 5))) 1 (.int (nI 6))) 1 (.int (nI 7))) 1 (.int (nI 8))) 1 (.int (nI 9))) 1 (.int (nI 10))) 1 (.int (nI 11))) 1 (.int (nI 12))) 1 (.int (nI 13))) 1 (.int (nI 14))) 1 (.int (nI 15))) 1 (.int (nI 16))) 1 (.int (nI 17))) 1 (.int (nI 18))) 1 (.int (nI 19)))).set 1 (.int (nI 20)))), ((r 0), aB E 4096 (upd (upd (upd (upd (upd (upd (upd (upd (upd (upd (upd (upd (upd (upd (upd (upd (upd (upd (upd (upd (fun _ => 0) 0 (vp_nar .byte ((a >>> ((nI 24) &&& 31)).toInt8.toInt32))) 1 (vp_nar .byte ((a >>> ((nI 16) &&& 31)).toInt8.toInt32))) 2 (vp_nar .byte ((a >>> ((nI 8) &&& 31)).toInt8.toInt32))) 3 (vp_nar .byte ((a >>> ((nI 0) &&& 31)).toInt8.toInt32))) 4 (vp_nar .byte ((b >>> ((nI 24) &&& 31)).toInt8.toInt32))) 5 (vp_nar .byte ((b >>> ((nI 16) &&& 31)).toInt8.toInt32))) 6 (vp_nar .byte ((b >>> ((nI 8) &&& 31)).toInt8.toInt32))) 7 (vp_nar .byte ((b >>> ((nI 0) &&& 31)).toInt8.toInt32))) 8 (vp_nar .byte ((c9 >>> ((nI 24) &&& 31)).toInt8.toInt32))) 9 (vp_nar .byte ((c9 >>> ((nI 16) &&& 31)).toInt8.toInt32))) 10 (vp_nar .byte ((c9 >>> ((nI 8) &&& 31)).toInt8.toInt32))) 11 (vp_nar .byte ((c9 >>> ((nI 0) &&& 31)).toInt8.toInt32))) 12 (vp_nar .byte ((d >>> ((nI 24) &&& 31)).toInt8.toInt32))) 13 (vp_nar .byte ((d >>> ((nI 16) &&& 31)).toInt8.toInt32))) 14 (vp_nar .byte ((d >>> ((nI 8) &&& 31)).toInt8.toInt32))) 15 (vp_nar .byte ((d >>> ((nI 0) &&& 31)).toInt8.toInt32))) 16 (vp_nar .byte ((e9 >>> ((nI 24) &&& 31)).toInt8.toInt32))) 17 (vp_nar .byte ((e9 >>> ((nI 16) &&& 31)).toInt8.toInt32))) 18 (vp_nar .byte ((e9 >>> ((nI 8) &&& 31)).toInt8.toInt32))) 19 (vp_nar .byte ((e9 >>> ((nI 0) &&& 31)).toInt8.toInt32))))] := hD
  rw [mfs_set _ 1 _ (by decide)] at hP hD
  refine lv_iinc (v := nI 20) (lv' := [(6, .int (nI 20)), (7, .int e9), (0, .ref h0), (1, .int a), (2, .int b), (3, .int c9), (4, .int d), (5, .int e9)]) hx hb dX12_feed_106 hl (k := 1) rfl (by decide) (by decide) rfl (fun ls hl => ?_)
  refine lv_goto (tgt := 18) hx hb dX12_feed_109 (by decide) ?_
  refine lv_iload hx hb dX12_feed_18 (lv_at hl 0 rfl) ?_
  refine lv_bipush (v := nI 20) hx hb dX12_feed_20 (by decide) ?_
  refine lv_icmp_ge (tgt := 112) hx hb dX12_feed_22 (by decide) (fun c_1022 => ?_) (fun c_1022 => absurd (by decide) c_1022)
  refine lv_iconst (v := nI 1) hx hb dX12_feed_112 (by decide) ?_
  exact cB_ret F hP hD hS hK (by decide) () rfl [] rfl rfl dX12_feed_113 (by decide) (by decide)
theorem yy_X12_feed : cY yX12_feed cX12_feed 8 (some .boolean) 5 := ⟨wdK_X12_feed, wdZ_RX12, by decide +kernel⟩
theorem yi_X12_feed : cYi yX12_feed := ⟨wdN_X12_feed, wdS_X12_feed⟩
theorem set_nat2 {k n : Int32} (h : (k = 0 ∧ n = 4) ∨ (1 ≤ k ∧ k ≤ 3 ∧ 1 ≤ n ∧ n ≤ 32)) : ∃ k9 n9 : Nat, ((k9 = 0 ∧ n9 = 4) ∨ (1 ≤ k9 ∧ k9 ≤ 3 ∧ 1 ≤ n9 ∧ n9 ≤ 32)) ∧ k = nI k9 ∧ n = nI n9 := by
  obtain ⟨k9, n9, hk, hn, ek, en⟩ := set_nat h
  refine ⟨k9, n9, ?_, ek, en⟩
  rcases h with ⟨h1, h2⟩ | ⟨h1, h2, h3, h4⟩
  · exact Or.inl ⟨(nI_eq (by omega) (by decide)).mp (ek.symm.trans h1), (nI_eq (by omega) (by decide)).mp (en.symm.trans h2)⟩
  · rw [ek] at h1; rw [en] at h3
    exact Or.inr ⟨(nI_leI (by decide) (by omega)).mp h1, hk, (nI_leI (by decide) (by omega)).mp h3, hn⟩
theorem dX12_set_0 : decode cX12_set 0 = .ok (.aload_n 0, 1) := by decide +kernel
theorem dX12_set_1 : decode cX12_set 1 = .ok (.iload_n 1, 1) := by decide +kernel
theorem dX12_set_2 : decode cX12_set 2 = .ok (.iload_n 2, 1) := by decide +kernel
theorem dX12_set_3 : decode cX12_set 3 = .ok (.invokevirtual 220, 3) := by decide +kernel
theorem dX12_set_6 : decode cX12_set 6 = .ok (.ifCond .ne 5, 3) := by decide +kernel
theorem dX12_set_9 : decode cX12_set 9 = .ok (.iconst 0, 1) := by decide +kernel
theorem dX12_set_10 : decode cX12_set 10 = .ok (.ireturn, 1) := by decide +kernel
theorem dX12_set_11 : decode cX12_set 11 = .ok (.aload_n 0, 1) := by decide +kernel
theorem dX12_set_12 : decode cX12_set 12 = .ok (.invokevirtual 224, 3) := by decide +kernel
theorem dX12_set_15 : decode cX12_set 15 = .ok (.aload_n 0, 1) := by decide +kernel
theorem dX12_set_16 : decode cX12_set 16 = .ok (.iconst 0, 1) := by decide +kernel
theorem dX12_set_17 : decode cX12_set 17 = .ok (.putfield 238, 3) := by decide +kernel
theorem dX12_set_20 : decode cX12_set 20 = .ok (.aload_n 0, 1) := by decide +kernel
theorem dX12_set_21 : decode cX12_set 21 = .ok (.iconst 0, 1) := by decide +kernel
theorem dX12_set_22 : decode cX12_set 22 = .ok (.putfield 241, 3) := by decide +kernel
theorem dX12_set_25 : decode cX12_set 25 = .ok (.aload_n 0, 1) := by decide +kernel
theorem dX12_set_26 : decode cX12_set 26 = .ok (.iconst 0, 1) := by decide +kernel
theorem dX12_set_27 : decode cX12_set 27 = .ok (.putfield 245, 3) := by decide +kernel
theorem dX12_set_30 : decode cX12_set 30 = .ok (.aload_n 0, 1) := by decide +kernel
theorem dX12_set_31 : decode cX12_set 31 = .ok (.lconst 0, 1) := by decide +kernel
theorem dX12_set_32 : decode cX12_set 32 = .ok (.putfield 248, 3) := by decide +kernel
theorem dX12_set_35 : decode cX12_set 35 = .ok (.aload_n 0, 1) := by decide +kernel
theorem dX12_set_36 : decode cX12_set 36 = .ok (.iconst (-1), 1) := by decide +kernel
theorem dX12_set_37 : decode cX12_set 37 = .ok (.putfield 196, 3) := by decide +kernel
theorem dX12_set_40 : decode cX12_set 40 = .ok (.aload_n 0, 1) := by decide +kernel
theorem dX12_set_41 : decode cX12_set 41 = .ok (.iconst 0, 1) := by decide +kernel
theorem dX12_set_42 : decode cX12_set 42 = .ok (.putfield 252, 3) := by decide +kernel
theorem dX12_set_45 : decode cX12_set 45 = .ok (.aload_n 0, 1) := by decide +kernel
theorem dX12_set_46 : decode cX12_set 46 = .ok (.iconst 0, 1) := by decide +kernel
theorem dX12_set_47 : decode cX12_set 47 = .ok (.putfield 255, 3) := by decide +kernel
theorem dX12_set_50 : decode cX12_set 50 = .ok (.iconst 1, 1) := by decide +kernel
theorem dX12_set_51 : decode cX12_set 51 = .ok (.ireturn, 1) := by decide +kernel
abbrev rm_p_X12_set : Room := { frames := 2, cells := 0, slots := 0, locals := 50 }
set_option maxHeartbeats 4000000 in
set_option maxRecDepth 100000 in
theorem p_X12_set (l : Launch) (E : cE) (h0 : Nat) (r : Nat → Nat) (g : Nat → Value) (gx : Nat → Int32) (gy : Nat → Int32) (gw : Nat → Int32) (gt : Nat → Int32) (fx : Nat → Int32) (fy : Nat → Int32) (fw : Nat → Int32) (bx : Nat → Int32) (by_ : Nat → Int32) (bw : Nat → Int32) (k : Int32) (n : Int32) (hR : mOK r g) (hI : ∀ k, k < 116 → mRef k = false → g k = mI k) (hm1 : flo (stC 0) (2 * 4) gx gy gw) (hm2 : ∀ d, d < 2 * 4 → gt d = 0) (hm3 : ∀ d, d < 2 * 4 → fx d = gx d ∧ fy d = gy d ∧ fw d = gw d) (hm4 : ∀ d, d < 2 * 4 → bx d = gx d ∧ by_ d = gy d ∧ bw d = gw d) : cM l E yX12_set cX12_set 3 (some .boolean) rm_p_X12_set [.ref h0, .int k, .int n] [(h0, ob 12 (mfs g)), ((r 38), aI E 64 gx), ((r 39), aI E 64 gy), ((r 40), aI E 64 gw), ((r 41), aI E 64 gt), ((r 44), aI E 64 fx), ((r 45), aI E 64 fy), ((r 46), aI E 64 fw), ((r 47), aI E 64 bx), ((r 48), aI E 64 by_), ((r 49), aI E 64 bw)] (qI E (fun (r : Int32) (_u : Unit) => r = if (k = 0 ∧ n = 4) ∨ (1 ≤ k ∧ k ≤ 3 ∧ 1 ≤ n ∧ n ≤ 32) then 1 else 0) (fun _ => [])) := by
  refine cM_of (by decide) (Nat.le_of_ble_eq_true rfl) ?_
  intro p e s m below meth c ls A F hA hS hP hD hK hZ hl
  obtain ⟨hx, hb, hr, hml, hown, hts, hlk, hin⟩ := id F
  have hown : s.vm.findClass RX12 = some m.cls := hown
  have hl : lv_has ls 3 [(0, .ref h0), (1, .int k), (2, .int n)] := hl
  refine lv_aload_n hx hb dX12_set_0 rfl (lv_at hl 0 rfl) ?_
  refine lv_iload_n hx hb dX12_set_1 rfl (lv_at hl 1 rfl) ?_
  refine lv_iload_n hx hb dX12_set_2 rfl (lv_at hl 2 rfl) ?_
  rcases Decidable.em ((k = 0 ∧ n = 4) ∨ (1 ≤ k ∧ k ≤ 3 ∧ 1 ≤ n ∧ n ≤ 32)) with hv | hv
  · have hres : ∀ x : Int32, x = 1 → x = if (k = 0 ∧ n = 4) ∨ (1 ≤ k ∧ k ≤ 3 ∧ 1 ≤ n ∧ n ≤ 32) then 1 else 0 := fun x e => e.trans (if_pos hv).symm
    obtain ⟨k9, n9, hv9, ek, en⟩ := set_nat2 hv
    subst ek; subst en
    refine cI_go (wr := [((r 47), aI E 64 bx), ((r 48), aI E 64 by_), ((r 49), aI E 64 bw)]) (cM_runV (As := [.int (nI k9), .int (nI n9)]) (rest := []) F (c_X12_begins l E h0 r g gx gy gw gt fx fy fw k9 n9 hR hv9) yy_X12_begins yi_X12_begins wdM_RX12_220 hP hD hS hK hZ hA [0, 1, 2, 3, 4, 5, 6, 7] rfl rfl 0 12 rfl rfl rfl hl.1 rfl (Nat.le_of_ble_eq_true rfl) dX12_set_3 ⟨by decide, by decide⟩ ⟨by decide, by decide⟩) hP hD hS hA [0, 1, 2, 3, 4, 5, 6, 7] [8, 9, 10] rfl rfl rfl (by decide) (fun r_1028 u_1027 H locs hwb hP hD hS => ?_)
    obtain ⟨qx, qy, qw, qt, ux, uy, uw⟩ := u_1027
    try dsimp only at hwb
    have hP : va_P E.1 vwCl [((r 47), aI E 64 bx), ((r 48), aI E 64 by_), ((r 49), aI E 64 bw), (h0, ob 12 (mfs (updG g 37 (.int (nI (2 * n9)))))), ((r 38), aI E 64 qx), ((r 39), aI E 64 qy), ((r 40), aI E 64 qw), ((r 41), aI E 64 qt), ((r 44), aI E 64 ux), ((r 45), aI E 64 uy), ((r 46), aI E 64 uw)] H := hP
    have hD : va_D A [((r 47), aI E 64 bx), ((r 48), aI E 64 by_), ((r 49), aI E 64 bw), (h0, ob 12 (mfs (updG g 37 (.int (nI (2 * n9)))))), ((r 38), aI E 64 qx), ((r 39), aI E 64 qy), ((r 40), aI E 64 qw), ((r 41), aI E 64 qt), ((r 44), aI E 64 ux), ((r 45), aI E 64 uy), ((r 46), aI E 64 uw)] := hD
    have hr1 : r_1028 = 1 := hwb.1
    subst hr1
    refine lv_if_ne (tgt := 11) hx hb dX12_set_6 (by decide) (fun c_1029 => ?_) (fun c_1029 => absurd c_1029 (by decide))
    refine lv_aload_n hx hb dX12_set_11 rfl (lv_at hl 0 rfl) ?_
    refine cV_go (wr := [((r 41), aI E 64 qt), ((r 44), aI E 64 ux), ((r 45), aI E 64 uy), ((r 46), aI E 64 uw)]) (cM_runV (As := []) (rest := []) F (c_X12_marks l E h0 r (updG g 37 (.int (nI (2 * n9)))) qx qy qw bx by_ bw (2 * n9) (mOK_u hR rfl) rfl (by omega)) yy_X12_marks yi_X12_marks wdM_RX12_224 hP hD hS hK hZ hA [3, 4, 5, 6, 0, 1, 2] rfl rfl 3 12 rfl rfl rfl hl.1 rfl (Nat.le_of_ble_eq_true rfl) dX12_set_12 ⟨by decide, by decide⟩ ⟨by decide, by decide⟩) hP hD hS hA [3, 4, 5, 6, 0, 1, 2] [7, 8, 9, 10] rfl rfl rfl (by decide) (fun u_1031 H locs hw_1030 hP hD hS => ?_)
    obtain ⟨bx_1033, by__1034, bw_1035⟩ := u_1031
    try dsimp only at hw_1030
    have hP : va_P E.1 vwCl [((r 41), aI E 64 qt), ((r 44), aI E 64 ux), ((r 45), aI E 64 uy), ((r 46), aI E 64 uw), (h0, ob 12 (mfs (updG g 37 (.int (nI (2 * n9)))))), ((r 38), aI E 64 qx), ((r 39), aI E 64 qy), ((r 40), aI E 64 qw), ((r 47), aI E 64 bx_1033), ((r 48), aI E 64 by__1034), ((r 49), aI E 64 bw_1035)] H := hP
    have hD : va_D A [((r 41), aI E 64 qt), ((r 44), aI E 64 ux), ((r 45), aI E 64 uy), ((r 46), aI E 64 uw), (h0, ob 12 (mfs (updG g 37 (.int (nI (2 * n9)))))), ((r 38), aI E 64 qx), ((r 39), aI E 64 qy), ((r 40), aI E 64 qw), ((r 47), aI E 64 bx_1033), ((r 48), aI E 64 by__1034), ((r 49), aI E 64 bw_1035)] := hD
    refine lv_aload_n hx hb dX12_set_15 rfl (lv_at hl 0 rfl) ?_
    refine lv_iconst (v := nI 0) hx hb dX12_set_16 (by decide) ?_
    refine va_put (D := E.1) (ci := 12) (v := .int (nI 0)) (ty := .int) (C := RX12) (T := TX12) (N := 116) hx hb hts iX12 tyX12 tyX12_ok nmX12 hown hK hP hD hS 4 rfl rfl 59 (by decide) (hts _ wdF_RX12_238) (fun _ h9 => h9) rfl (by decide +kernel) rfl rfl (by rw [mfs_len]; decide) dX12_set_17 (fun H locs hP hD hS => ?_)
    have hP : va_P E.1 vwCl [((r 41), aI E 64 qt), ((r 44), aI E 64 ux), ((r 45), aI E 64 uy), ((r 46), aI E 64 uw), (h0, ob 12 ((mfs (updG g 37 (.int (nI (2 * n9))))).set 59 (.int (nI 0)))), ((r 38), aI E 64 qx), ((r 39), aI E 64 qy), ((r 40), aI E 64 qw), ((r 47), aI E 64 bx_1033), ((r 48), aI E 64 by__1034), ((r 49), aI E 64 bw_1035)] H := hP
    have hD : va_D A [((r 41), aI E 64 qt), ((r 44), aI E 64 ux), ((r 45), aI E 64 uy), ((r 46), aI E 64 uw), (h0, ob 12 ((mfs (updG g 37 (.int (nI (2 * n9))))).set 59 (.int (nI 0)))), ((r 38), aI E 64 qx), ((r 39), aI E 64 qy), ((r 40), aI E 64 qw), ((r 47), aI E 64 bx_1033), ((r 48), aI E 64 by__1034), ((r 49), aI E 64 bw_1035)] := hD
    rw [mfs_set _ 59 _ (by decide)] at hP hD
    refine lv_aload_n hx hb dX12_set_20 rfl (lv_at hl 0 rfl) ?_
    refine lv_iconst (v := nI 0) hx hb dX12_set_21 (by decide) ?_
    refine va_put (D := E.1) (ci := 12) (v := .int (nI 0)) (ty := .boolean) (C := RX12) (T := TX12) (N := 116) hx hb hts iX12 tyX12 tyX12_ok nmX12 hown hK hP hD hS 4 rfl rfl 50 (by decide) (hts _ wdF_RX12_241) (fun _ h9 => h9) rfl (by decide +kernel) (by decide) (by decide) (by rw [mfs_len]; decide) dX12_set_22 (fun H locs hP hD hS => ?_)
    have hP : va_P E.1 vwCl [((r 41), aI E 64 qt), ((r 44), aI E 64 ux), ((r 45), aI E 64 uy), ((r 46), aI E 64 uw), (h0, ob 12 ((mfs (updG (updG g 37 (.int (nI (2 * n9)))) 59 (.int (nI 0)))).set 50 (.int (nI 0)))), ((r 38), aI E 64 qx), ((r 39), aI E 64 qy), ((r 40), aI E 64 qw), ((r 47), aI E 64 bx_1033), ((r 48), aI E 64 by__1034), ((r 49), aI E 64 bw_1035)] H := hP
    have hD : va_D A [((r 41), aI E 64 qt), ((r 44), aI E 64 ux), ((r 45), aI E 64 uy), ((r 46), aI E 64 uw), (h0, ob 12 ((mfs (updG (updG g 37 (.int (nI (2 * n9)))) 59 (.int (nI 0)))).set 50 (.int (nI 0)))), ((r 38), aI E 64 qx), ((r 39), aI E 64 qy), ((r 40), aI E 64 qw), ((r 47), aI E 64 bx_1033), ((r 48), aI E 64 by__1034), ((r 49), aI E 64 bw_1035)] := hD
    rw [mfs_set _ 50 _ (by decide)] at hP hD
    refine lv_aload_n hx hb dX12_set_25 rfl (lv_at hl 0 rfl) ?_
    refine lv_iconst (v := nI 0) hx hb dX12_set_26 (by decide) ?_
    refine va_put (D := E.1) (ci := 12) (v := .int (nI 0)) (ty := .int) (C := RX12) (T := TX12) (N := 116) hx hb hts iX12 tyX12 tyX12_ok nmX12 hown hK hP hD hS 4 rfl rfl 51 (by decide) (hts _ wdF_RX12_245) (fun _ h9 => h9) rfl (by decide +kernel) rfl rfl (by rw [mfs_len]; decide) dX12_set_27 (fun H locs hP hD hS => ?_)
    have hP : va_P E.1 vwCl [((r 41), aI E 64 qt), ((r 44), aI E 64 ux), ((r 45), aI E 64 uy), ((r 46), aI E 64 uw), (h0, ob 12 ((mfs (updG (updG (updG g 37 (.int (nI (2 * n9)))) 59 (.int (nI 0))) 50 (.int (nI 0)))).set 51 (.int (nI 0)))), ((r 38), aI E 64 qx), ((r 39), aI E 64 qy), ((r 40), aI E 64 qw), ((r 47), aI E 64 bx_1033), ((r 48), aI E 64 by__1034), ((r 49), aI E 64 bw_1035)] H := hP
    have hD : va_D A [((r 41), aI E 64 qt), ((r 44), aI E 64 ux), ((r 45), aI E 64 uy), ((r 46), aI E 64 uw), (h0, ob 12 ((mfs (updG (updG (updG g 37 (.int (nI (2 * n9)))) 59 (.int (nI 0))) 50 (.int (nI 0)))).set 51 (.int (nI 0)))), ((r 38), aI E 64 qx), ((r 39), aI E 64 qy), ((r 40), aI E 64 qw), ((r 47), aI E 64 bx_1033), ((r 48), aI E 64 by__1034), ((r 49), aI E 64 bw_1035)] := hD
    rw [mfs_set _ 51 _ (by decide)] at hP hD
    refine lv_aload_n hx hb dX12_set_30 rfl (lv_at hl 0 rfl) ?_
    refine lv_lconst (v := 0) hx hb dX12_set_31 (by decide) ?_
    refine va_put (D := E.1) (ci := 12) (v := .long 0) (ty := .long) (C := RX12) (T := TX12) (N := 116) hx hb hts iX12 tyX12 tyX12_ok nmX12 hown hK hP hD hS 4 rfl rfl 100 (by decide) (hts _ wdF_RX12_248) (fun _ h9 => h9) rfl (by decide +kernel) rfl rfl (by rw [mfs_len]; decide) dX12_set_32 (fun H locs hP hD hS => ?_)
    have hP : va_P E.1 vwCl [((r 41), aI E 64 qt), ((r 44), aI E 64 ux), ((r 45), aI E 64 uy), ((r 46), aI E 64 uw), (h0, ob 12 ((mfs (updG (updG (updG (updG g 37 (.int (nI (2 * n9)))) 59 (.int (nI 0))) 50 (.int (nI 0))) 51 (.int (nI 0)))).set 100 (.long 0))), ((r 38), aI E 64 qx), ((r 39), aI E 64 qy), ((r 40), aI E 64 qw), ((r 47), aI E 64 bx_1033), ((r 48), aI E 64 by__1034), ((r 49), aI E 64 bw_1035)] H := hP
    have hD : va_D A [((r 41), aI E 64 qt), ((r 44), aI E 64 ux), ((r 45), aI E 64 uy), ((r 46), aI E 64 uw), (h0, ob 12 ((mfs (updG (updG (updG (updG g 37 (.int (nI (2 * n9)))) 59 (.int (nI 0))) 50 (.int (nI 0))) 51 (.int (nI 0)))).set 100 (.long 0))), ((r 38), aI E 64 qx), ((r 39), aI E 64 qy), ((r 40), aI E 64 qw), ((r 47), aI E 64 bx_1033), ((r 48), aI E 64 by__1034), ((r 49), aI E 64 bw_1035)] := hD
    rw [mfs_set _ 100 _ (by decide)] at hP hD
    refine lv_aload_n hx hb dX12_set_35 rfl (lv_at hl 0 rfl) ?_
    refine lv_iconst (v := (-1)) hx hb dX12_set_36 (by decide) ?_
    refine va_put (D := E.1) (ci := 12) (v := .int (-1)) (ty := .int) (C := RX12) (T := TX12) (N := 116) hx hb hts iX12 tyX12 tyX12_ok nmX12 hown hK hP hD hS 4 rfl rfl 101 (by decide) (hts _ wdF_RX12_196) (fun _ h9 => h9) rfl (by decide +kernel) rfl rfl (by rw [mfs_len]; decide) dX12_set_37 (fun H locs hP hD hS => ?_)
    have hP : va_P E.1 vwCl [((r 41), aI E 64 qt), ((r 44), aI E 64 ux), ((r 45), aI E 64 uy), ((r 46), aI E 64 uw), (h0, ob 12 ((mfs (updG (updG (updG (updG (updG g 37 (.int (nI (2 * n9)))) 59 (.int (nI 0))) 50 (.int (nI 0))) 51 (.int (nI 0))) 100 (.long 0))).set 101 (.int (-1)))), ((r 38), aI E 64 qx), ((r 39), aI E 64 qy), ((r 40), aI E 64 qw), ((r 47), aI E 64 bx_1033), ((r 48), aI E 64 by__1034), ((r 49), aI E 64 bw_1035)] H := hP
    have hD : va_D A [((r 41), aI E 64 qt), ((r 44), aI E 64 ux), ((r 45), aI E 64 uy), ((r 46), aI E 64 uw), (h0, ob 12 ((mfs (updG (updG (updG (updG (updG g 37 (.int (nI (2 * n9)))) 59 (.int (nI 0))) 50 (.int (nI 0))) 51 (.int (nI 0))) 100 (.long 0))).set 101 (.int (-1)))), ((r 38), aI E 64 qx), ((r 39), aI E 64 qy), ((r 40), aI E 64 qw), ((r 47), aI E 64 bx_1033), ((r 48), aI E 64 by__1034), ((r 49), aI E 64 bw_1035)] := hD
    rw [mfs_set _ 101 _ (by decide)] at hP hD
    refine lv_aload_n hx hb dX12_set_40 rfl (lv_at hl 0 rfl) ?_
    refine lv_iconst (v := nI 0) hx hb dX12_set_41 (by decide) ?_
    refine va_put (D := E.1) (ci := 12) (v := .int (nI 0)) (ty := .int) (C := RX12) (T := TX12) (N := 116) hx hb hts iX12 tyX12 tyX12_ok nmX12 hown hK hP hD hS 4 rfl rfl 42 (by decide) (hts _ wdF_RX12_252) (fun _ h9 => h9) rfl (by decide +kernel) rfl rfl (by rw [mfs_len]; decide) dX12_set_42 (fun H locs hP hD hS => ?_)
    have hP : va_P E.1 vwCl [((r 41), aI E 64 qt), ((r 44), aI E 64 ux), ((r 45), aI E 64 uy), ((r 46), aI E 64 uw), (h0, ob 12 ((mfs (updG (updG (updG (updG (updG (updG g 37 (.int (nI (2 * n9)))) 59 (.int (nI 0))) 50 (.int (nI 0))) 51 (.int (nI 0))) 100 (.long 0)) 101 (.int (-1)))).set 42 (.int (nI 0)))), ((r 38), aI E 64 qx), ((r 39), aI E 64 qy), ((r 40), aI E 64 qw), ((r 47), aI E 64 bx_1033), ((r 48), aI E 64 by__1034), ((r 49), aI E 64 bw_1035)] H := hP
    have hD : va_D A [((r 41), aI E 64 qt), ((r 44), aI E 64 ux), ((r 45), aI E 64 uy), ((r 46), aI E 64 uw), (h0, ob 12 ((mfs (updG (updG (updG (updG (updG (updG g 37 (.int (nI (2 * n9)))) 59 (.int (nI 0))) 50 (.int (nI 0))) 51 (.int (nI 0))) 100 (.long 0)) 101 (.int (-1)))).set 42 (.int (nI 0)))), ((r 38), aI E 64 qx), ((r 39), aI E 64 qy), ((r 40), aI E 64 qw), ((r 47), aI E 64 bx_1033), ((r 48), aI E 64 by__1034), ((r 49), aI E 64 bw_1035)] := hD
    rw [mfs_set _ 42 _ (by decide)] at hP hD
    refine lv_aload_n hx hb dX12_set_45 rfl (lv_at hl 0 rfl) ?_
    refine lv_iconst (v := nI 0) hx hb dX12_set_46 (by decide) ?_
    refine va_put (D := E.1) (ci := 12) (v := .int (nI 0)) (ty := .int) (C := RX12) (T := TX12) (N := 116) hx hb hts iX12 tyX12 tyX12_ok nmX12 hown hK hP hD hS 4 rfl rfl 43 (by decide) (hts _ wdF_RX12_255) (fun _ h9 => h9) rfl (by decide +kernel) rfl rfl (by rw [mfs_len]; decide) dX12_set_47 (fun H locs hP hD hS => ?_)
    have hP : va_P E.1 vwCl [((r 41), aI E 64 qt), ((r 44), aI E 64 ux), ((r 45), aI E 64 uy), ((r 46), aI E 64 uw), (h0, ob 12 ((mfs (updG (updG (updG (updG (updG (updG (updG g 37 (.int (nI (2 * n9)))) 59 (.int (nI 0))) 50 (.int (nI 0))) 51 (.int (nI 0))) 100 (.long 0)) 101 (.int (-1))) 42 (.int (nI 0)))).set 43 (.int (nI 0)))), ((r 38), aI E 64 qx), ((r 39), aI E 64 qy), ((r 40), aI E 64 qw), ((r 47), aI E 64 bx_1033), ((r 48), aI E 64 by__1034), ((r 49), aI E 64 bw_1035)] H := hP
    have hD : va_D A [((r 41), aI E 64 qt), ((r 44), aI E 64 ux), ((r 45), aI E 64 uy), ((r 46), aI E 64 uw), (h0, ob 12 ((mfs (updG (updG (updG (updG (updG (updG (updG g 37 (.int (nI (2 * n9)))) 59 (.int (nI 0))) 50 (.int (nI 0))) 51 (.int (nI 0))) 100 (.long 0)) 101 (.int (-1))) 42 (.int (nI 0)))).set 43 (.int (nI 0)))), ((r 38), aI E 64 qx), ((r 39), aI E 64 qy), ((r 40), aI E 64 qw), ((r 47), aI E 64 bx_1033), ((r 48), aI E 64 by__1034), ((r 49), aI E 64 bw_1035)] := hD
    rw [mfs_set _ 43 _ (by decide)] at hP hD
    refine lv_iconst (v := nI 1) hx hb dX12_set_50 (by decide) ?_
    exact cB_ret F hP hD hS hK (by decide) () (hres _ rfl) [] rfl rfl dX12_set_51 (by decide) (by decide)
  · refine cI_go (wr := [((r 38), aI E 64 gx), ((r 39), aI E 64 gy), ((r 40), aI E 64 gw), ((r 41), aI E 64 gt), ((r 44), aI E 64 fx), ((r 45), aI E 64 fy), ((r 46), aI E 64 fw), ((r 47), aI E 64 bx), ((r 48), aI E 64 by_), ((r 49), aI E 64 bw)]) (cM_runV (As := [.int k, .int n]) (rest := []) F (c_X12_begins_bad l E h0 r g k n hR hv) yy_X12_begins yi_X12_begins wdM_RX12_220 hP hD hS hK hZ hA [0] rfl rfl 0 12 rfl rfl rfl hl.1 rfl (Nat.le_of_ble_eq_true rfl) dX12_set_3 ⟨by decide, by decide⟩ ⟨by decide, by decide⟩) hP hD hS hA [0] [1, 2, 3, 4, 5, 6, 7, 8, 9, 10] rfl rfl rfl (by decide) (fun r_1025 u_1024 H locs hw_1023 hP hD hS => ?_)
    try dsimp only at hw_1023
    have hP : va_P E.1 vwCl [((r 38), aI E 64 gx), ((r 39), aI E 64 gy), ((r 40), aI E 64 gw), ((r 41), aI E 64 gt), ((r 44), aI E 64 fx), ((r 45), aI E 64 fy), ((r 46), aI E 64 fw), ((r 47), aI E 64 bx), ((r 48), aI E 64 by_), ((r 49), aI E 64 bw), (h0, ob 12 (mfs g))] H := hP
    have hD : va_D A [((r 38), aI E 64 gx), ((r 39), aI E 64 gy), ((r 40), aI E 64 gw), ((r 41), aI E 64 gt), ((r 44), aI E 64 fx), ((r 45), aI E 64 fy), ((r 46), aI E 64 fw), ((r 47), aI E 64 bx), ((r 48), aI E 64 by_), ((r 49), aI E 64 bw), (h0, ob 12 (mfs g))] := hD
    subst hw_1023
    refine lv_if_ne (tgt := 11) hx hb dX12_set_6 (by decide) (fun c_1026 => absurd (by decide) c_1026) (fun c_1026 => ?_)
    refine lv_iconst (v := nI 0) hx hb dX12_set_9 (by decide) ?_
    exact cB_ret F hP hD hS hK (by decide) () (if_neg hv).symm [] rfl rfl dX12_set_10 (by decide) (by decide)
theorem yy_X12_set : cY yX12_set cX12_set 3 (some .boolean) 2 := ⟨wdK_X12_set, wdZ_RX12, by decide +kernel⟩
theorem yi_X12_set : cYi yX12_set := ⟨wdN_X12_set, wdS_X12_set⟩
theorem dX12_packed_0 : decode cX12_packed 0 = .ok (.aload_n 0, 1) := by decide +kernel
theorem dX12_packed_1 : decode cX12_packed 1 = .ok (.getfield 71, 3) := by decide +kernel
theorem dX12_packed_4 : decode cX12_packed 4 = .ok (.iload_n 1, 1) := by decide +kernel
theorem dX12_packed_5 : decode cX12_packed 5 = .ok (.iaload, 1) := by decide +kernel
theorem dX12_packed_6 : decode cX12_packed 6 = .ok (.aload_n 0, 1) := by decide +kernel
theorem dX12_packed_7 : decode cX12_packed 7 = .ok (.getfield 74, 3) := by decide +kernel
theorem dX12_packed_10 : decode cX12_packed 10 = .ok (.iload_n 1, 1) := by decide +kernel
theorem dX12_packed_11 : decode cX12_packed 11 = .ok (.iaload, 1) := by decide +kernel
theorem dX12_packed_12 : decode cX12_packed 12 = .ok (.bipush 8, 2) := by decide +kernel
theorem dX12_packed_14 : decode cX12_packed 14 = .ok (.ishl, 1) := by decide +kernel
theorem dX12_packed_15 : decode cX12_packed 15 = .ok (.ior, 1) := by decide +kernel
theorem dX12_packed_16 : decode cX12_packed 16 = .ok (.aload_n 0, 1) := by decide +kernel
theorem dX12_packed_17 : decode cX12_packed 17 = .ok (.getfield 77, 3) := by decide +kernel
theorem dX12_packed_20 : decode cX12_packed 20 = .ok (.iload_n 1, 1) := by decide +kernel
theorem dX12_packed_21 : decode cX12_packed 21 = .ok (.iaload, 1) := by decide +kernel
theorem dX12_packed_22 : decode cX12_packed 22 = .ok (.bipush 16, 2) := by decide +kernel
theorem dX12_packed_24 : decode cX12_packed 24 = .ok (.ishl, 1) := by decide +kernel
theorem dX12_packed_25 : decode cX12_packed 25 = .ok (.ior, 1) := by decide +kernel
theorem dX12_packed_26 : decode cX12_packed 26 = .ok (.ireturn, 1) := by decide +kernel
abbrev rm_z76_X12_packed : Room := { frames := 0, cells := 0, slots := 0, locals := 0 }
set_option maxHeartbeats 4000000 in
set_option maxRecDepth 100000 in
theorem z76_X12_packed (l : Launch) (E : cE) (h0 : Nat) (r : Nat → Nat) (g : Nat → Value) (gx : Nat → Int32) (gy : Nat → Int32) (gw : Nat → Int32) (gt : Nat → Int32) (fx : Nat → Int32) (fy : Nat → Int32) (fw : Nat → Int32) (bx : Nat → Int32) (by_ : Nat → Int32) (bw : Nat → Int32) (v : Int32) (s2 : Nat → Int32) (hR : mOK r g) (hI : ∀ k, k < 116 → mRef k = false → g k = mI k) (hm1 : flo (stC 0) (2 * 4) gx gy gw) (hm2 : ∀ d, d < 2 * 4 → gt d = 0) (hm3 : ∀ d, d < 2 * 4 → fx d = gx d ∧ fy d = gy d ∧ fw d = gw d) (hm4 : ∀ d, d < 2 * 4 → bx d = gx d ∧ by_ d = gy d ∧ bw d = gw d) : cM l E yX12_packed cX12_packed 2 (some .int) rm_z76_X12_packed [.ref h0, .int (nI 0)] [((r 47), aI E 64 bx), ((r 48), aI E 64 by_), ((r 49), aI E 64 bw), ((r 92), aI E 32000 (fun _ => 0)), ((r 93), aI E 2000 (fun _ => 0)), ((r 95), aJ E 2000 (fun _ => 0)), ((r 96), aI E 2000 (fun _ => 0)), ((r 97), aI E 32 (fun _ => 0)), ((r 30), aI E 32 (fun _ => 0)), (h0, ob 12 (mfs (updG (updG (updG (updG (updG g 100 (.long 0)) 101 (.int (-1))) 90 (.int (nI 0))) 99 (.int (-1))) 98 (.int (nI 0))))), ((r 38), aI E 64 gx), ((r 39), aI E 64 gy), ((r 40), aI E 64 gw), ((r 41), aI E 64 gt), ((r 104), aI E 256 s2)] (qI E (fun (r : Int32) (_u : Unit) => r = ((gx 0) ||| ((gy 0) <<< ((nI 8) &&& 31))) ||| ((gw 0) <<< ((nI 16) &&& 31))) (fun _ => [((r 47), aI E 64 bx), ((r 48), aI E 64 by_), ((r 49), aI E 64 bw), ((r 92), aI E 32000 (fun _ => 0)), ((r 93), aI E 2000 (fun _ => 0)), ((r 95), aJ E 2000 (fun _ => 0)), ((r 96), aI E 2000 (fun _ => 0)), ((r 97), aI E 32 (fun _ => 0)), ((r 30), aI E 32 (fun _ => 0)), (h0, ob 12 (mfs (updG (updG (updG (updG (updG g 100 (.long 0)) 101 (.int (-1))) 90 (.int (nI 0))) 99 (.int (-1))) 98 (.int (nI 0))))), ((r 38), aI E 64 gx), ((r 39), aI E 64 gy), ((r 40), aI E 64 gw), ((r 41), aI E 64 gt), ((r 104), aI E 256 s2)])) := by
  refine cM_of (by decide) (Nat.le_of_ble_eq_true rfl) ?_
  intro p e s m below meth c ls A F hA hS hP hD hK hZ hl
  obtain ⟨hx, hb, hr, hml, hown, hts, hlk, hin⟩ := id F
  have hown : s.vm.findClass RX12 = some m.cls := hown
  have hl : lv_has ls 2 [(0, .ref h0), (1, .int (nI 0))] := hl
  refine lv_aload_n hx hb dX12_packed_0 rfl (lv_at hl 0 rfl) ?_
  refine va_get (D := E.1) (ci := 12) (v := .ref (r 38)) (C := RX12) (T := TX12) (N := 116) hx hb hts iX12 hown hK hP 9 rfl rfl 38 (by decide) (hts _ wdF_RX12_71) (fun _ h9 => h9) ((mfs_get _ 38 (by decide)).trans (congrArg some (show (updG (updG (updG (updG (updG g 100 (.long 0)) 101 (.int (-1))) 90 (.int (nI 0))) 99 (.int (-1))) 98 (.int (nI 0))) 38 = .ref (r 38) from (hR 38 rfl)))) dX12_packed_1 ?_
  refine lv_iload_n hx hb dX12_packed_4 rfl (lv_at hl 1 rfl) ?_
  refine va_iald hx hb hK hP 10 1 rfl rfl (vp_in_nI (by decide) (by decide)) dX12_packed_5 ?_
  rw [nI_clamp (n := 0) (by decide)]
  refine lv_aload_n hx hb dX12_packed_6 rfl (lv_at hl 0 rfl) ?_
  refine va_get (D := E.1) (ci := 12) (v := .ref (r 39)) (C := RX12) (T := TX12) (N := 116) hx hb hts iX12 hown hK hP 9 rfl rfl 39 (by decide) (hts _ wdF_RX12_74) (fun _ h9 => h9) ((mfs_get _ 39 (by decide)).trans (congrArg some (show (updG (updG (updG (updG (updG g 100 (.long 0)) 101 (.int (-1))) 90 (.int (nI 0))) 99 (.int (-1))) 98 (.int (nI 0))) 39 = .ref (r 39) from (hR 39 rfl)))) dX12_packed_7 ?_
  refine lv_iload_n hx hb dX12_packed_10 rfl (lv_at hl 1 rfl) ?_
  refine va_iald hx hb hK hP 11 1 rfl rfl (vp_in_nI (by decide) (by decide)) dX12_packed_11 ?_
  rw [nI_clamp (n := 0) (by decide)]
  refine lv_bipush (v := nI 8) hx hb dX12_packed_12 (by decide) ?_
  refine lv_ishl hx hb dX12_packed_14 ?_
  refine lv_ior hx hb dX12_packed_15 ?_
  refine lv_aload_n hx hb dX12_packed_16 rfl (lv_at hl 0 rfl) ?_
  refine va_get (D := E.1) (ci := 12) (v := .ref (r 40)) (C := RX12) (T := TX12) (N := 116) hx hb hts iX12 hown hK hP 9 rfl rfl 40 (by decide) (hts _ wdF_RX12_77) (fun _ h9 => h9) ((mfs_get _ 40 (by decide)).trans (congrArg some (show (updG (updG (updG (updG (updG g 100 (.long 0)) 101 (.int (-1))) 90 (.int (nI 0))) 99 (.int (-1))) 98 (.int (nI 0))) 40 = .ref (r 40) from (hR 40 rfl)))) dX12_packed_17 ?_
  refine lv_iload_n hx hb dX12_packed_20 rfl (lv_at hl 1 rfl) ?_
  refine va_iald hx hb hK hP 12 1 rfl rfl (vp_in_nI (by decide) (by decide)) dX12_packed_21 ?_
  rw [nI_clamp (n := 0) (by decide)]
  refine lv_bipush (v := nI 16) hx hb dX12_packed_22 (by decide) ?_
  refine lv_ishl hx hb dX12_packed_24 ?_
  refine lv_ior hx hb dX12_packed_25 ?_
  exact cI_ret F hP hD hS hK () rfl [0, 1, 2, 3, 4, 5, 6, 7, 8, 9, 10, 11, 12, 13, 14] rfl rfl dX12_packed_26 (by decide) (by decide)
theorem yy_X12_packed : cY yX12_packed cX12_packed 2 (some .int) 1 := ⟨wdK_X12_packed, wdZ_RX12, by decide +kernel⟩
theorem yi_X12_packed : cYi yX12_packed := ⟨wdN_X12_packed, wdS_X12_packed⟩
abbrev rm_z77_X12_packed : Room := { frames := 0, cells := 0, slots := 0, locals := 0 }
set_option maxHeartbeats 4000000 in
set_option maxRecDepth 100000 in
theorem z77_X12_packed (l : Launch) (E : cE) (h0 : Nat) (r : Nat → Nat) (g : Nat → Value) (gx : Nat → Int32) (gy : Nat → Int32) (gw : Nat → Int32) (gt : Nat → Int32) (fx : Nat → Int32) (fy : Nat → Int32) (fw : Nat → Int32) (bx : Nat → Int32) (by_ : Nat → Int32) (bw : Nat → Int32) (v : Int32) (s2 : Nat → Int32) (hR : mOK r g) (hI : ∀ k, k < 116 → mRef k = false → g k = mI k) (hm1 : flo (stC 0) (2 * 4) gx gy gw) (hm2 : ∀ d, d < 2 * 4 → gt d = 0) (hm3 : ∀ d, d < 2 * 4 → fx d = gx d ∧ fy d = gy d ∧ fw d = gw d) (hm4 : ∀ d, d < 2 * 4 → bx d = gx d ∧ by_ d = gy d ∧ bw d = gw d) : cM l E yX12_packed cX12_packed 2 (some .int) rm_z77_X12_packed [.ref h0, .int (nI 1)] [((r 47), aI E 64 bx), ((r 48), aI E 64 by_), ((r 49), aI E 64 bw), ((r 92), aI E 32000 (upd (fun _ => 0) 0 (((gx 0) ||| ((gy 0) <<< ((nI 8) &&& 31))) ||| ((gw 0) <<< ((nI 16) &&& 31))))), ((r 93), aI E 2000 (fun _ => 0)), ((r 95), aJ E 2000 (fun _ => 0)), ((r 96), aI E 2000 (fun _ => 0)), ((r 97), aI E 32 (fun _ => 0)), ((r 30), aI E 32 (fun _ => 0)), (h0, ob 12 (mfs (updG (updG (updG (updG (updG g 100 (.long 0)) 101 (.int (-1))) 90 (.int (nI 0))) 99 (.int (-1))) 98 (.int (nI 0))))), ((r 38), aI E 64 gx), ((r 39), aI E 64 gy), ((r 40), aI E 64 gw), ((r 41), aI E 64 gt), ((r 104), aI E 256 s2)] (qI E (fun (r : Int32) (_u : Unit) => r = ((gx 1) ||| ((gy 1) <<< ((nI 8) &&& 31))) ||| ((gw 1) <<< ((nI 16) &&& 31))) (fun _ => [((r 47), aI E 64 bx), ((r 48), aI E 64 by_), ((r 49), aI E 64 bw), ((r 92), aI E 32000 (upd (fun _ => 0) 0 (((gx 0) ||| ((gy 0) <<< ((nI 8) &&& 31))) ||| ((gw 0) <<< ((nI 16) &&& 31))))), ((r 93), aI E 2000 (fun _ => 0)), ((r 95), aJ E 2000 (fun _ => 0)), ((r 96), aI E 2000 (fun _ => 0)), ((r 97), aI E 32 (fun _ => 0)), ((r 30), aI E 32 (fun _ => 0)), (h0, ob 12 (mfs (updG (updG (updG (updG (updG g 100 (.long 0)) 101 (.int (-1))) 90 (.int (nI 0))) 99 (.int (-1))) 98 (.int (nI 0))))), ((r 38), aI E 64 gx), ((r 39), aI E 64 gy), ((r 40), aI E 64 gw), ((r 41), aI E 64 gt), ((r 104), aI E 256 s2)])) := by
  refine cM_of (by decide) (Nat.le_of_ble_eq_true rfl) ?_
  intro p e s m below meth c ls A F hA hS hP hD hK hZ hl
  obtain ⟨hx, hb, hr, hml, hown, hts, hlk, hin⟩ := id F
  have hown : s.vm.findClass RX12 = some m.cls := hown
  have hl : lv_has ls 2 [(0, .ref h0), (1, .int (nI 1))] := hl
  refine lv_aload_n hx hb dX12_packed_0 rfl (lv_at hl 0 rfl) ?_
  refine va_get (D := E.1) (ci := 12) (v := .ref (r 38)) (C := RX12) (T := TX12) (N := 116) hx hb hts iX12 hown hK hP 9 rfl rfl 38 (by decide) (hts _ wdF_RX12_71) (fun _ h9 => h9) ((mfs_get _ 38 (by decide)).trans (congrArg some (show (updG (updG (updG (updG (updG g 100 (.long 0)) 101 (.int (-1))) 90 (.int (nI 0))) 99 (.int (-1))) 98 (.int (nI 0))) 38 = .ref (r 38) from (hR 38 rfl)))) dX12_packed_1 ?_
  refine lv_iload_n hx hb dX12_packed_4 rfl (lv_at hl 1 rfl) ?_
  refine va_iald hx hb hK hP 10 1 rfl rfl (vp_in_nI (by decide) (by decide)) dX12_packed_5 ?_
  rw [nI_clamp (n := 1) (by decide)]
  refine lv_aload_n hx hb dX12_packed_6 rfl (lv_at hl 0 rfl) ?_
  refine va_get (D := E.1) (ci := 12) (v := .ref (r 39)) (C := RX12) (T := TX12) (N := 116) hx hb hts iX12 hown hK hP 9 rfl rfl 39 (by decide) (hts _ wdF_RX12_74) (fun _ h9 => h9) ((mfs_get _ 39 (by decide)).trans (congrArg some (show (updG (updG (updG (updG (updG g 100 (.long 0)) 101 (.int (-1))) 90 (.int (nI 0))) 99 (.int (-1))) 98 (.int (nI 0))) 39 = .ref (r 39) from (hR 39 rfl)))) dX12_packed_7 ?_
  refine lv_iload_n hx hb dX12_packed_10 rfl (lv_at hl 1 rfl) ?_
  refine va_iald hx hb hK hP 11 1 rfl rfl (vp_in_nI (by decide) (by decide)) dX12_packed_11 ?_
  rw [nI_clamp (n := 1) (by decide)]
  refine lv_bipush (v := nI 8) hx hb dX12_packed_12 (by decide) ?_
  refine lv_ishl hx hb dX12_packed_14 ?_
  refine lv_ior hx hb dX12_packed_15 ?_
  refine lv_aload_n hx hb dX12_packed_16 rfl (lv_at hl 0 rfl) ?_
  refine va_get (D := E.1) (ci := 12) (v := .ref (r 40)) (C := RX12) (T := TX12) (N := 116) hx hb hts iX12 hown hK hP 9 rfl rfl 40 (by decide) (hts _ wdF_RX12_77) (fun _ h9 => h9) ((mfs_get _ 40 (by decide)).trans (congrArg some (show (updG (updG (updG (updG (updG g 100 (.long 0)) 101 (.int (-1))) 90 (.int (nI 0))) 99 (.int (-1))) 98 (.int (nI 0))) 40 = .ref (r 40) from (hR 40 rfl)))) dX12_packed_17 ?_
  refine lv_iload_n hx hb dX12_packed_20 rfl (lv_at hl 1 rfl) ?_
  refine va_iald hx hb hK hP 12 1 rfl rfl (vp_in_nI (by decide) (by decide)) dX12_packed_21 ?_
  rw [nI_clamp (n := 1) (by decide)]
  refine lv_bipush (v := nI 16) hx hb dX12_packed_22 (by decide) ?_
  refine lv_ishl hx hb dX12_packed_24 ?_
  refine lv_ior hx hb dX12_packed_25 ?_
  exact cI_ret F hP hD hS hK () rfl [0, 1, 2, 3, 4, 5, 6, 7, 8, 9, 10, 11, 12, 13, 14] rfl rfl dX12_packed_26 (by decide) (by decide)
abbrev rm_z78_X12_packed : Room := { frames := 0, cells := 0, slots := 0, locals := 0 }
set_option maxHeartbeats 4000000 in
set_option maxRecDepth 100000 in
theorem z78_X12_packed (l : Launch) (E : cE) (h0 : Nat) (r : Nat → Nat) (g : Nat → Value) (gx : Nat → Int32) (gy : Nat → Int32) (gw : Nat → Int32) (gt : Nat → Int32) (fx : Nat → Int32) (fy : Nat → Int32) (fw : Nat → Int32) (bx : Nat → Int32) (by_ : Nat → Int32) (bw : Nat → Int32) (v : Int32) (s2 : Nat → Int32) (hR : mOK r g) (hI : ∀ k, k < 116 → mRef k = false → g k = mI k) (hm1 : flo (stC 0) (2 * 4) gx gy gw) (hm2 : ∀ d, d < 2 * 4 → gt d = 0) (hm3 : ∀ d, d < 2 * 4 → fx d = gx d ∧ fy d = gy d ∧ fw d = gw d) (hm4 : ∀ d, d < 2 * 4 → bx d = gx d ∧ by_ d = gy d ∧ bw d = gw d) : cM l E yX12_packed cX12_packed 2 (some .int) rm_z78_X12_packed [.ref h0, .int (nI 2)] [((r 47), aI E 64 bx), ((r 48), aI E 64 by_), ((r 49), aI E 64 bw), ((r 92), aI E 32000 (upd (upd (fun _ => 0) 0 (((gx 0) ||| ((gy 0) <<< ((nI 8) &&& 31))) ||| ((gw 0) <<< ((nI 16) &&& 31)))) 1 (((gx 1) ||| ((gy 1) <<< ((nI 8) &&& 31))) ||| ((gw 1) <<< ((nI 16) &&& 31))))), ((r 93), aI E 2000 (fun _ => 0)), ((r 95), aJ E 2000 (fun _ => 0)), ((r 96), aI E 2000 (fun _ => 0)), ((r 97), aI E 32 (fun _ => 0)), ((r 30), aI E 32 (fun _ => 0)), (h0, ob 12 (mfs (updG (updG (updG (updG (updG g 100 (.long 0)) 101 (.int (-1))) 90 (.int (nI 0))) 99 (.int (-1))) 98 (.int (nI 0))))), ((r 38), aI E 64 gx), ((r 39), aI E 64 gy), ((r 40), aI E 64 gw), ((r 41), aI E 64 gt), ((r 104), aI E 256 s2)] (qI E (fun (r : Int32) (_u : Unit) => r = ((gx 2) ||| ((gy 2) <<< ((nI 8) &&& 31))) ||| ((gw 2) <<< ((nI 16) &&& 31))) (fun _ => [((r 47), aI E 64 bx), ((r 48), aI E 64 by_), ((r 49), aI E 64 bw), ((r 92), aI E 32000 (upd (upd (fun _ => 0) 0 (((gx 0) ||| ((gy 0) <<< ((nI 8) &&& 31))) ||| ((gw 0) <<< ((nI 16) &&& 31)))) 1 (((gx 1) ||| ((gy 1) <<< ((nI 8) &&& 31))) ||| ((gw 1) <<< ((nI 16) &&& 31))))), ((r 93), aI E 2000 (fun _ => 0)), ((r 95), aJ E 2000 (fun _ => 0)), ((r 96), aI E 2000 (fun _ => 0)), ((r 97), aI E 32 (fun _ => 0)), ((r 30), aI E 32 (fun _ => 0)), (h0, ob 12 (mfs (updG (updG (updG (updG (updG g 100 (.long 0)) 101 (.int (-1))) 90 (.int (nI 0))) 99 (.int (-1))) 98 (.int (nI 0))))), ((r 38), aI E 64 gx), ((r 39), aI E 64 gy), ((r 40), aI E 64 gw), ((r 41), aI E 64 gt), ((r 104), aI E 256 s2)])) := by
  refine cM_of (by decide) (Nat.le_of_ble_eq_true rfl) ?_
  intro p e s m below meth c ls A F hA hS hP hD hK hZ hl
  obtain ⟨hx, hb, hr, hml, hown, hts, hlk, hin⟩ := id F
  have hown : s.vm.findClass RX12 = some m.cls := hown
  have hl : lv_has ls 2 [(0, .ref h0), (1, .int (nI 2))] := hl
  refine lv_aload_n hx hb dX12_packed_0 rfl (lv_at hl 0 rfl) ?_
  refine va_get (D := E.1) (ci := 12) (v := .ref (r 38)) (C := RX12) (T := TX12) (N := 116) hx hb hts iX12 hown hK hP 9 rfl rfl 38 (by decide) (hts _ wdF_RX12_71) (fun _ h9 => h9) ((mfs_get _ 38 (by decide)).trans (congrArg some (show (updG (updG (updG (updG (updG g 100 (.long 0)) 101 (.int (-1))) 90 (.int (nI 0))) 99 (.int (-1))) 98 (.int (nI 0))) 38 = .ref (r 38) from (hR 38 rfl)))) dX12_packed_1 ?_
  refine lv_iload_n hx hb dX12_packed_4 rfl (lv_at hl 1 rfl) ?_
  refine va_iald hx hb hK hP 10 1 rfl rfl (vp_in_nI (by decide) (by decide)) dX12_packed_5 ?_
  rw [nI_clamp (n := 2) (by decide)]
  refine lv_aload_n hx hb dX12_packed_6 rfl (lv_at hl 0 rfl) ?_
  refine va_get (D := E.1) (ci := 12) (v := .ref (r 39)) (C := RX12) (T := TX12) (N := 116) hx hb hts iX12 hown hK hP 9 rfl rfl 39 (by decide) (hts _ wdF_RX12_74) (fun _ h9 => h9) ((mfs_get _ 39 (by decide)).trans (congrArg some (show (updG (updG (updG (updG (updG g 100 (.long 0)) 101 (.int (-1))) 90 (.int (nI 0))) 99 (.int (-1))) 98 (.int (nI 0))) 39 = .ref (r 39) from (hR 39 rfl)))) dX12_packed_7 ?_
  refine lv_iload_n hx hb dX12_packed_10 rfl (lv_at hl 1 rfl) ?_
  refine va_iald hx hb hK hP 11 1 rfl rfl (vp_in_nI (by decide) (by decide)) dX12_packed_11 ?_
  rw [nI_clamp (n := 2) (by decide)]
  refine lv_bipush (v := nI 8) hx hb dX12_packed_12 (by decide) ?_
  refine lv_ishl hx hb dX12_packed_14 ?_
  refine lv_ior hx hb dX12_packed_15 ?_
  refine lv_aload_n hx hb dX12_packed_16 rfl (lv_at hl 0 rfl) ?_
  refine va_get (D := E.1) (ci := 12) (v := .ref (r 40)) (C := RX12) (T := TX12) (N := 116) hx hb hts iX12 hown hK hP 9 rfl rfl 40 (by decide) (hts _ wdF_RX12_77) (fun _ h9 => h9) ((mfs_get _ 40 (by decide)).trans (congrArg some (show (updG (updG (updG (updG (updG g 100 (.long 0)) 101 (.int (-1))) 90 (.int (nI 0))) 99 (.int (-1))) 98 (.int (nI 0))) 40 = .ref (r 40) from (hR 40 rfl)))) dX12_packed_17 ?_
  refine lv_iload_n hx hb dX12_packed_20 rfl (lv_at hl 1 rfl) ?_
  refine va_iald hx hb hK hP 12 1 rfl rfl (vp_in_nI (by decide) (by decide)) dX12_packed_21 ?_
  rw [nI_clamp (n := 2) (by decide)]
  refine lv_bipush (v := nI 16) hx hb dX12_packed_22 (by decide) ?_
  refine lv_ishl hx hb dX12_packed_24 ?_
  refine lv_ior hx hb dX12_packed_25 ?_
  exact cI_ret F hP hD hS hK () rfl [0, 1, 2, 3, 4, 5, 6, 7, 8, 9, 10, 11, 12, 13, 14] rfl rfl dX12_packed_26 (by decide) (by decide)
abbrev rm_z79_X12_packed : Room := { frames := 0, cells := 0, slots := 0, locals := 0 }
set_option maxHeartbeats 4000000 in
set_option maxRecDepth 100000 in
theorem z79_X12_packed (l : Launch) (E : cE) (h0 : Nat) (r : Nat → Nat) (g : Nat → Value) (gx : Nat → Int32) (gy : Nat → Int32) (gw : Nat → Int32) (gt : Nat → Int32) (fx : Nat → Int32) (fy : Nat → Int32) (fw : Nat → Int32) (bx : Nat → Int32) (by_ : Nat → Int32) (bw : Nat → Int32) (v : Int32) (s2 : Nat → Int32) (hR : mOK r g) (hI : ∀ k, k < 116 → mRef k = false → g k = mI k) (hm1 : flo (stC 0) (2 * 4) gx gy gw) (hm2 : ∀ d, d < 2 * 4 → gt d = 0) (hm3 : ∀ d, d < 2 * 4 → fx d = gx d ∧ fy d = gy d ∧ fw d = gw d) (hm4 : ∀ d, d < 2 * 4 → bx d = gx d ∧ by_ d = gy d ∧ bw d = gw d) : cM l E yX12_packed cX12_packed 2 (some .int) rm_z79_X12_packed [.ref h0, .int (nI 3)] [((r 47), aI E 64 bx), ((r 48), aI E 64 by_), ((r 49), aI E 64 bw), ((r 92), aI E 32000 (upd (upd (upd (fun _ => 0) 0 (((gx 0) ||| ((gy 0) <<< ((nI 8) &&& 31))) ||| ((gw 0) <<< ((nI 16) &&& 31)))) 1 (((gx 1) ||| ((gy 1) <<< ((nI 8) &&& 31))) ||| ((gw 1) <<< ((nI 16) &&& 31)))) 2 (((gx 2) ||| ((gy 2) <<< ((nI 8) &&& 31))) ||| ((gw 2) <<< ((nI 16) &&& 31))))), ((r 93), aI E 2000 (fun _ => 0)), ((r 95), aJ E 2000 (fun _ => 0)), ((r 96), aI E 2000 (fun _ => 0)), ((r 97), aI E 32 (fun _ => 0)), ((r 30), aI E 32 (fun _ => 0)), (h0, ob 12 (mfs (updG (updG (updG (updG (updG g 100 (.long 0)) 101 (.int (-1))) 90 (.int (nI 0))) 99 (.int (-1))) 98 (.int (nI 0))))), ((r 38), aI E 64 gx), ((r 39), aI E 64 gy), ((r 40), aI E 64 gw), ((r 41), aI E 64 gt), ((r 104), aI E 256 s2)] (qI E (fun (r : Int32) (_u : Unit) => r = ((gx 3) ||| ((gy 3) <<< ((nI 8) &&& 31))) ||| ((gw 3) <<< ((nI 16) &&& 31))) (fun _ => [((r 47), aI E 64 bx), ((r 48), aI E 64 by_), ((r 49), aI E 64 bw), ((r 92), aI E 32000 (upd (upd (upd (fun _ => 0) 0 (((gx 0) ||| ((gy 0) <<< ((nI 8) &&& 31))) ||| ((gw 0) <<< ((nI 16) &&& 31)))) 1 (((gx 1) ||| ((gy 1) <<< ((nI 8) &&& 31))) ||| ((gw 1) <<< ((nI 16) &&& 31)))) 2 (((gx 2) ||| ((gy 2) <<< ((nI 8) &&& 31))) ||| ((gw 2) <<< ((nI 16) &&& 31))))), ((r 93), aI E 2000 (fun _ => 0)), ((r 95), aJ E 2000 (fun _ => 0)), ((r 96), aI E 2000 (fun _ => 0)), ((r 97), aI E 32 (fun _ => 0)), ((r 30), aI E 32 (fun _ => 0)), (h0, ob 12 (mfs (updG (updG (updG (updG (updG g 100 (.long 0)) 101 (.int (-1))) 90 (.int (nI 0))) 99 (.int (-1))) 98 (.int (nI 0))))), ((r 38), aI E 64 gx), ((r 39), aI E 64 gy), ((r 40), aI E 64 gw), ((r 41), aI E 64 gt), ((r 104), aI E 256 s2)])) := by
  refine cM_of (by decide) (Nat.le_of_ble_eq_true rfl) ?_
  intro p e s m below meth c ls A F hA hS hP hD hK hZ hl
  obtain ⟨hx, hb, hr, hml, hown, hts, hlk, hin⟩ := id F
  have hown : s.vm.findClass RX12 = some m.cls := hown
  have hl : lv_has ls 2 [(0, .ref h0), (1, .int (nI 3))] := hl
  refine lv_aload_n hx hb dX12_packed_0 rfl (lv_at hl 0 rfl) ?_
  refine va_get (D := E.1) (ci := 12) (v := .ref (r 38)) (C := RX12) (T := TX12) (N := 116) hx hb hts iX12 hown hK hP 9 rfl rfl 38 (by decide) (hts _ wdF_RX12_71) (fun _ h9 => h9) ((mfs_get _ 38 (by decide)).trans (congrArg some (show (updG (updG (updG (updG (updG g 100 (.long 0)) 101 (.int (-1))) 90 (.int (nI 0))) 99 (.int (-1))) 98 (.int (nI 0))) 38 = .ref (r 38) from (hR 38 rfl)))) dX12_packed_1 ?_
  refine lv_iload_n hx hb dX12_packed_4 rfl (lv_at hl 1 rfl) ?_
  refine va_iald hx hb hK hP 10 1 rfl rfl (vp_in_nI (by decide) (by decide)) dX12_packed_5 ?_
  rw [nI_clamp (n := 3) (by decide)]
  refine lv_aload_n hx hb dX12_packed_6 rfl (lv_at hl 0 rfl) ?_
  refine va_get (D := E.1) (ci := 12) (v := .ref (r 39)) (C := RX12) (T := TX12) (N := 116) hx hb hts iX12 hown hK hP 9 rfl rfl 39 (by decide) (hts _ wdF_RX12_74) (fun _ h9 => h9) ((mfs_get _ 39 (by decide)).trans (congrArg some (show (updG (updG (updG (updG (updG g 100 (.long 0)) 101 (.int (-1))) 90 (.int (nI 0))) 99 (.int (-1))) 98 (.int (nI 0))) 39 = .ref (r 39) from (hR 39 rfl)))) dX12_packed_7 ?_
  refine lv_iload_n hx hb dX12_packed_10 rfl (lv_at hl 1 rfl) ?_
  refine va_iald hx hb hK hP 11 1 rfl rfl (vp_in_nI (by decide) (by decide)) dX12_packed_11 ?_
  rw [nI_clamp (n := 3) (by decide)]
  refine lv_bipush (v := nI 8) hx hb dX12_packed_12 (by decide) ?_
  refine lv_ishl hx hb dX12_packed_14 ?_
  refine lv_ior hx hb dX12_packed_15 ?_
  refine lv_aload_n hx hb dX12_packed_16 rfl (lv_at hl 0 rfl) ?_
  refine va_get (D := E.1) (ci := 12) (v := .ref (r 40)) (C := RX12) (T := TX12) (N := 116) hx hb hts iX12 hown hK hP 9 rfl rfl 40 (by decide) (hts _ wdF_RX12_77) (fun _ h9 => h9) ((mfs_get _ 40 (by decide)).trans (congrArg some (show (updG (updG (updG (updG (updG g 100 (.long 0)) 101 (.int (-1))) 90 (.int (nI 0))) 99 (.int (-1))) 98 (.int (nI 0))) 40 = .ref (r 40) from (hR 40 rfl)))) dX12_packed_17 ?_
  refine lv_iload_n hx hb dX12_packed_20 rfl (lv_at hl 1 rfl) ?_
  refine va_iald hx hb hK hP 12 1 rfl rfl (vp_in_nI (by decide) (by decide)) dX12_packed_21 ?_
  rw [nI_clamp (n := 3) (by decide)]
  refine lv_bipush (v := nI 16) hx hb dX12_packed_22 (by decide) ?_
  refine lv_ishl hx hb dX12_packed_24 ?_
  refine lv_ior hx hb dX12_packed_25 ?_
  exact cI_ret F hP hD hS hK () rfl [0, 1, 2, 3, 4, 5, 6, 7, 8, 9, 10, 11, 12, 13, 14] rfl rfl dX12_packed_26 (by decide) (by decide)
abbrev rm_z80_X12_packed : Room := { frames := 0, cells := 0, slots := 0, locals := 0 }
set_option maxHeartbeats 4000000 in
set_option maxRecDepth 100000 in
theorem z80_X12_packed (l : Launch) (E : cE) (h0 : Nat) (r : Nat → Nat) (g : Nat → Value) (gx : Nat → Int32) (gy : Nat → Int32) (gw : Nat → Int32) (gt : Nat → Int32) (fx : Nat → Int32) (fy : Nat → Int32) (fw : Nat → Int32) (bx : Nat → Int32) (by_ : Nat → Int32) (bw : Nat → Int32) (v : Int32) (s2 : Nat → Int32) (hR : mOK r g) (hI : ∀ k, k < 116 → mRef k = false → g k = mI k) (hm1 : flo (stC 0) (2 * 4) gx gy gw) (hm2 : ∀ d, d < 2 * 4 → gt d = 0) (hm3 : ∀ d, d < 2 * 4 → fx d = gx d ∧ fy d = gy d ∧ fw d = gw d) (hm4 : ∀ d, d < 2 * 4 → bx d = gx d ∧ by_ d = gy d ∧ bw d = gw d) : cM l E yX12_packed cX12_packed 2 (some .int) rm_z80_X12_packed [.ref h0, .int (nI 4)] [((r 47), aI E 64 bx), ((r 48), aI E 64 by_), ((r 49), aI E 64 bw), ((r 92), aI E 32000 (upd (upd (upd (upd (fun _ => 0) 0 (((gx 0) ||| ((gy 0) <<< ((nI 8) &&& 31))) ||| ((gw 0) <<< ((nI 16) &&& 31)))) 1 (((gx 1) ||| ((gy 1) <<< ((nI 8) &&& 31))) ||| ((gw 1) <<< ((nI 16) &&& 31)))) 2 (((gx 2) ||| ((gy 2) <<< ((nI 8) &&& 31))) ||| ((gw 2) <<< ((nI 16) &&& 31)))) 3 (((gx 3) ||| ((gy 3) <<< ((nI 8) &&& 31))) ||| ((gw 3) <<< ((nI 16) &&& 31))))), ((r 93), aI E 2000 (fun _ => 0)), ((r 95), aJ E 2000 (fun _ => 0)), ((r 96), aI E 2000 (fun _ => 0)), ((r 97), aI E 32 (fun _ => 0)), ((r 30), aI E 32 (fun _ => 0)), (h0, ob 12 (mfs (updG (updG (updG (updG (updG g 100 (.long 0)) 101 (.int (-1))) 90 (.int (nI 0))) 99 (.int (-1))) 98 (.int (nI 0))))), ((r 38), aI E 64 gx), ((r 39), aI E 64 gy), ((r 40), aI E 64 gw), ((r 41), aI E 64 gt), ((r 104), aI E 256 s2)] (qI E (fun (r : Int32) (_u : Unit) => r = ((gx 4) ||| ((gy 4) <<< ((nI 8) &&& 31))) ||| ((gw 4) <<< ((nI 16) &&& 31))) (fun _ => [((r 47), aI E 64 bx), ((r 48), aI E 64 by_), ((r 49), aI E 64 bw), ((r 92), aI E 32000 (upd (upd (upd (upd (fun _ => 0) 0 (((gx 0) ||| ((gy 0) <<< ((nI 8) &&& 31))) ||| ((gw 0) <<< ((nI 16) &&& 31)))) 1 (((gx 1) ||| ((gy 1) <<< ((nI 8) &&& 31))) ||| ((gw 1) <<< ((nI 16) &&& 31)))) 2 (((gx 2) ||| ((gy 2) <<< ((nI 8) &&& 31))) ||| ((gw 2) <<< ((nI 16) &&& 31)))) 3 (((gx 3) ||| ((gy 3) <<< ((nI 8) &&& 31))) ||| ((gw 3) <<< ((nI 16) &&& 31))))), ((r 93), aI E 2000 (fun _ => 0)), ((r 95), aJ E 2000 (fun _ => 0)), ((r 96), aI E 2000 (fun _ => 0)), ((r 97), aI E 32 (fun _ => 0)), ((r 30), aI E 32 (fun _ => 0)), (h0, ob 12 (mfs (updG (updG (updG (updG (updG g 100 (.long 0)) 101 (.int (-1))) 90 (.int (nI 0))) 99 (.int (-1))) 98 (.int (nI 0))))), ((r 38), aI E 64 gx), ((r 39), aI E 64 gy), ((r 40), aI E 64 gw), ((r 41), aI E 64 gt), ((r 104), aI E 256 s2)])) := by
  refine cM_of (by decide) (Nat.le_of_ble_eq_true rfl) ?_
  intro p e s m below meth c ls A F hA hS hP hD hK hZ hl
  obtain ⟨hx, hb, hr, hml, hown, hts, hlk, hin⟩ := id F
  have hown : s.vm.findClass RX12 = some m.cls := hown
  have hl : lv_has ls 2 [(0, .ref h0), (1, .int (nI 4))] := hl
  refine lv_aload_n hx hb dX12_packed_0 rfl (lv_at hl 0 rfl) ?_
  refine va_get (D := E.1) (ci := 12) (v := .ref (r 38)) (C := RX12) (T := TX12) (N := 116) hx hb hts iX12 hown hK hP 9 rfl rfl 38 (by decide) (hts _ wdF_RX12_71) (fun _ h9 => h9) ((mfs_get _ 38 (by decide)).trans (congrArg some (show (updG (updG (updG (updG (updG g 100 (.long 0)) 101 (.int (-1))) 90 (.int (nI 0))) 99 (.int (-1))) 98 (.int (nI 0))) 38 = .ref (r 38) from (hR 38 rfl)))) dX12_packed_1 ?_
  refine lv_iload_n hx hb dX12_packed_4 rfl (lv_at hl 1 rfl) ?_
  refine va_iald hx hb hK hP 10 1 rfl rfl (vp_in_nI (by decide) (by decide)) dX12_packed_5 ?_
  rw [nI_clamp (n := 4) (by decide)]
  refine lv_aload_n hx hb dX12_packed_6 rfl (lv_at hl 0 rfl) ?_
  refine va_get (D := E.1) (ci := 12) (v := .ref (r 39)) (C := RX12) (T := TX12) (N := 116) hx hb hts iX12 hown hK hP 9 rfl rfl 39 (by decide) (hts _ wdF_RX12_74) (fun _ h9 => h9) ((mfs_get _ 39 (by decide)).trans (congrArg some (show (updG (updG (updG (updG (updG g 100 (.long 0)) 101 (.int (-1))) 90 (.int (nI 0))) 99 (.int (-1))) 98 (.int (nI 0))) 39 = .ref (r 39) from (hR 39 rfl)))) dX12_packed_7 ?_
  refine lv_iload_n hx hb dX12_packed_10 rfl (lv_at hl 1 rfl) ?_
  refine va_iald hx hb hK hP 11 1 rfl rfl (vp_in_nI (by decide) (by decide)) dX12_packed_11 ?_
  rw [nI_clamp (n := 4) (by decide)]
  refine lv_bipush (v := nI 8) hx hb dX12_packed_12 (by decide) ?_
  refine lv_ishl hx hb dX12_packed_14 ?_
  refine lv_ior hx hb dX12_packed_15 ?_
  refine lv_aload_n hx hb dX12_packed_16 rfl (lv_at hl 0 rfl) ?_
  refine va_get (D := E.1) (ci := 12) (v := .ref (r 40)) (C := RX12) (T := TX12) (N := 116) hx hb hts iX12 hown hK hP 9 rfl rfl 40 (by decide) (hts _ wdF_RX12_77) (fun _ h9 => h9) ((mfs_get _ 40 (by decide)).trans (congrArg some (show (updG (updG (updG (updG (updG g 100 (.long 0)) 101 (.int (-1))) 90 (.int (nI 0))) 99 (.int (-1))) 98 (.int (nI 0))) 40 = .ref (r 40) from (hR 40 rfl)))) dX12_packed_17 ?_
  refine lv_iload_n hx hb dX12_packed_20 rfl (lv_at hl 1 rfl) ?_
  refine va_iald hx hb hK hP 12 1 rfl rfl (vp_in_nI (by decide) (by decide)) dX12_packed_21 ?_
  rw [nI_clamp (n := 4) (by decide)]
  refine lv_bipush (v := nI 16) hx hb dX12_packed_22 (by decide) ?_
  refine lv_ishl hx hb dX12_packed_24 ?_
  refine lv_ior hx hb dX12_packed_25 ?_
  exact cI_ret F hP hD hS hK () rfl [0, 1, 2, 3, 4, 5, 6, 7, 8, 9, 10, 11, 12, 13, 14] rfl rfl dX12_packed_26 (by decide) (by decide)
abbrev rm_z81_X12_packed : Room := { frames := 0, cells := 0, slots := 0, locals := 0 }
set_option maxHeartbeats 4000000 in
set_option maxRecDepth 100000 in
theorem z81_X12_packed (l : Launch) (E : cE) (h0 : Nat) (r : Nat → Nat) (g : Nat → Value) (gx : Nat → Int32) (gy : Nat → Int32) (gw : Nat → Int32) (gt : Nat → Int32) (fx : Nat → Int32) (fy : Nat → Int32) (fw : Nat → Int32) (bx : Nat → Int32) (by_ : Nat → Int32) (bw : Nat → Int32) (v : Int32) (s2 : Nat → Int32) (hR : mOK r g) (hI : ∀ k, k < 116 → mRef k = false → g k = mI k) (hm1 : flo (stC 0) (2 * 4) gx gy gw) (hm2 : ∀ d, d < 2 * 4 → gt d = 0) (hm3 : ∀ d, d < 2 * 4 → fx d = gx d ∧ fy d = gy d ∧ fw d = gw d) (hm4 : ∀ d, d < 2 * 4 → bx d = gx d ∧ by_ d = gy d ∧ bw d = gw d) : cM l E yX12_packed cX12_packed 2 (some .int) rm_z81_X12_packed [.ref h0, .int (nI 5)] [((r 47), aI E 64 bx), ((r 48), aI E 64 by_), ((r 49), aI E 64 bw), ((r 92), aI E 32000 (upd (upd (upd (upd (upd (fun _ => 0) 0 (((gx 0) ||| ((gy 0) <<< ((nI 8) &&& 31))) ||| ((gw 0) <<< ((nI 16) &&& 31)))) 1 (((gx 1) ||| ((gy 1) <<< ((nI 8) &&& 31))) ||| ((gw 1) <<< ((nI 16) &&& 31)))) 2 (((gx 2) ||| ((gy 2) <<< ((nI 8) &&& 31))) ||| ((gw 2) <<< ((nI 16) &&& 31)))) 3 (((gx 3) ||| ((gy 3) <<< ((nI 8) &&& 31))) ||| ((gw 3) <<< ((nI 16) &&& 31)))) 4 (((gx 4) ||| ((gy 4) <<< ((nI 8) &&& 31))) ||| ((gw 4) <<< ((nI 16) &&& 31))))), ((r 93), aI E 2000 (fun _ => 0)), ((r 95), aJ E 2000 (fun _ => 0)), ((r 96), aI E 2000 (fun _ => 0)), ((r 97), aI E 32 (fun _ => 0)), ((r 30), aI E 32 (fun _ => 0)), (h0, ob 12 (mfs (updG (updG (updG (updG (updG g 100 (.long 0)) 101 (.int (-1))) 90 (.int (nI 0))) 99 (.int (-1))) 98 (.int (nI 0))))), ((r 38), aI E 64 gx), ((r 39), aI E 64 gy), ((r 40), aI E 64 gw), ((r 41), aI E 64 gt), ((r 104), aI E 256 s2)] (qI E (fun (r : Int32) (_u : Unit) => r = ((gx 5) ||| ((gy 5) <<< ((nI 8) &&& 31))) ||| ((gw 5) <<< ((nI 16) &&& 31))) (fun _ => [((r 47), aI E 64 bx), ((r 48), aI E 64 by_), ((r 49), aI E 64 bw), ((r 92), aI E 32000 (upd (upd (upd (upd (upd (fun _ => 0) 0 (((gx 0) ||| ((gy 0) <<< ((nI 8) &&& 31))) ||| ((gw 0) <<< ((nI 16) &&& 31)))) 1 (((gx 1) ||| ((gy 1) <<< ((nI 8) &&& 31))) ||| ((gw 1) <<< ((nI 16) &&& 31)))) 2 (((gx 2) ||| ((gy 2) <<< ((nI 8) &&& 31))) ||| ((gw 2) <<< ((nI 16) &&& 31)))) 3 (((gx 3) ||| ((gy 3) <<< ((nI 8) &&& 31))) ||| ((gw 3) <<< ((nI 16) &&& 31)))) 4 (((gx 4) ||| ((gy 4) <<< ((nI 8) &&& 31))) ||| ((gw 4) <<< ((nI 16) &&& 31))))), ((r 93), aI E 2000 (fun _ => 0)), ((r 95), aJ E 2000 (fun _ => 0)), ((r 96), aI E 2000 (fun _ => 0)), ((r 97), aI E 32 (fun _ => 0)), ((r 30), aI E 32 (fun _ => 0)), (h0, ob 12 (mfs (updG (updG (updG (updG (updG g 100 (.long 0)) 101 (.int (-1))) 90 (.int (nI 0))) 99 (.int (-1))) 98 (.int (nI 0))))), ((r 38), aI E 64 gx), ((r 39), aI E 64 gy), ((r 40), aI E 64 gw), ((r 41), aI E 64 gt), ((r 104), aI E 256 s2)])) := by
  refine cM_of (by decide) (Nat.le_of_ble_eq_true rfl) ?_
  intro p e s m below meth c ls A F hA hS hP hD hK hZ hl
  obtain ⟨hx, hb, hr, hml, hown, hts, hlk, hin⟩ := id F
  have hown : s.vm.findClass RX12 = some m.cls := hown
  have hl : lv_has ls 2 [(0, .ref h0), (1, .int (nI 5))] := hl
  refine lv_aload_n hx hb dX12_packed_0 rfl (lv_at hl 0 rfl) ?_
  refine va_get (D := E.1) (ci := 12) (v := .ref (r 38)) (C := RX12) (T := TX12) (N := 116) hx hb hts iX12 hown hK hP 9 rfl rfl 38 (by decide) (hts _ wdF_RX12_71) (fun _ h9 => h9) ((mfs_get _ 38 (by decide)).trans (congrArg some (show (updG (updG (updG (updG (updG g 100 (.long 0)) 101 (.int (-1))) 90 (.int (nI 0))) 99 (.int (-1))) 98 (.int (nI 0))) 38 = .ref (r 38) from (hR 38 rfl)))) dX12_packed_1 ?_
  refine lv_iload_n hx hb dX12_packed_4 rfl (lv_at hl 1 rfl) ?_
  refine va_iald hx hb hK hP 10 1 rfl rfl (vp_in_nI (by decide) (by decide)) dX12_packed_5 ?_
  rw [nI_clamp (n := 5) (by decide)]
  refine lv_aload_n hx hb dX12_packed_6 rfl (lv_at hl 0 rfl) ?_
  refine va_get (D := E.1) (ci := 12) (v := .ref (r 39)) (C := RX12) (T := TX12) (N := 116) hx hb hts iX12 hown hK hP 9 rfl rfl 39 (by decide) (hts _ wdF_RX12_74) (fun _ h9 => h9) ((mfs_get _ 39 (by decide)).trans (congrArg some (show (updG (updG (updG (updG (updG g 100 (.long 0)) 101 (.int (-1))) 90 (.int (nI 0))) 99 (.int (-1))) 98 (.int (nI 0))) 39 = .ref (r 39) from (hR 39 rfl)))) dX12_packed_7 ?_
  refine lv_iload_n hx hb dX12_packed_10 rfl (lv_at hl 1 rfl) ?_
  refine va_iald hx hb hK hP 11 1 rfl rfl (vp_in_nI (by decide) (by decide)) dX12_packed_11 ?_
  rw [nI_clamp (n := 5) (by decide)]
  refine lv_bipush (v := nI 8) hx hb dX12_packed_12 (by decide) ?_
  refine lv_ishl hx hb dX12_packed_14 ?_
  refine lv_ior hx hb dX12_packed_15 ?_
  refine lv_aload_n hx hb dX12_packed_16 rfl (lv_at hl 0 rfl) ?_
  refine va_get (D := E.1) (ci := 12) (v := .ref (r 40)) (C := RX12) (T := TX12) (N := 116) hx hb hts iX12 hown hK hP 9 rfl rfl 40 (by decide) (hts _ wdF_RX12_77) (fun _ h9 => h9) ((mfs_get _ 40 (by decide)).trans (congrArg some (show (updG (updG (updG (updG (updG g 100 (.long 0)) 101 (.int (-1))) 90 (.int (nI 0))) 99 (.int (-1))) 98 (.int (nI 0))) 40 = .ref (r 40) from (hR 40 rfl)))) dX12_packed_17 ?_
  refine lv_iload_n hx hb dX12_packed_20 rfl (lv_at hl 1 rfl) ?_
  refine va_iald hx hb hK hP 12 1 rfl rfl (vp_in_nI (by decide) (by decide)) dX12_packed_21 ?_
  rw [nI_clamp (n := 5) (by decide)]
  refine lv_bipush (v := nI 16) hx hb dX12_packed_22 (by decide) ?_
  refine lv_ishl hx hb dX12_packed_24 ?_
  refine lv_ior hx hb dX12_packed_25 ?_
  exact cI_ret F hP hD hS hK () rfl [0, 1, 2, 3, 4, 5, 6, 7, 8, 9, 10, 11, 12, 13, 14] rfl rfl dX12_packed_26 (by decide) (by decide)
abbrev rm_z82_X12_packed : Room := { frames := 0, cells := 0, slots := 0, locals := 0 }
set_option maxHeartbeats 4000000 in
set_option maxRecDepth 100000 in
theorem z82_X12_packed (l : Launch) (E : cE) (h0 : Nat) (r : Nat → Nat) (g : Nat → Value) (gx : Nat → Int32) (gy : Nat → Int32) (gw : Nat → Int32) (gt : Nat → Int32) (fx : Nat → Int32) (fy : Nat → Int32) (fw : Nat → Int32) (bx : Nat → Int32) (by_ : Nat → Int32) (bw : Nat → Int32) (v : Int32) (s2 : Nat → Int32) (hR : mOK r g) (hI : ∀ k, k < 116 → mRef k = false → g k = mI k) (hm1 : flo (stC 0) (2 * 4) gx gy gw) (hm2 : ∀ d, d < 2 * 4 → gt d = 0) (hm3 : ∀ d, d < 2 * 4 → fx d = gx d ∧ fy d = gy d ∧ fw d = gw d) (hm4 : ∀ d, d < 2 * 4 → bx d = gx d ∧ by_ d = gy d ∧ bw d = gw d) : cM l E yX12_packed cX12_packed 2 (some .int) rm_z82_X12_packed [.ref h0, .int (nI 6)] [((r 47), aI E 64 bx), ((r 48), aI E 64 by_), ((r 49), aI E 64 bw), ((r 92), aI E 32000 (upd (upd (upd (upd (upd (upd (fun _ => 0) 0 (((gx 0) ||| ((gy 0) <<< ((nI 8) &&& 31))) ||| ((gw 0) <<< ((nI 16) &&& 31)))) 1 (((gx 1) ||| ((gy 1) <<< ((nI 8) &&& 31))) ||| ((gw 1) <<< ((nI 16) &&& 31)))) 2 (((gx 2) ||| ((gy 2) <<< ((nI 8) &&& 31))) ||| ((gw 2) <<< ((nI 16) &&& 31)))) 3 (((gx 3) ||| ((gy 3) <<< ((nI 8) &&& 31))) ||| ((gw 3) <<< ((nI 16) &&& 31)))) 4 (((gx 4) ||| ((gy 4) <<< ((nI 8) &&& 31))) ||| ((gw 4) <<< ((nI 16) &&& 31)))) 5 (((gx 5) ||| ((gy 5) <<< ((nI 8) &&& 31))) ||| ((gw 5) <<< ((nI 16) &&& 31))))), ((r 93), aI E 2000 (fun _ => 0)), ((r 95), aJ E 2000 (fun _ => 0)), ((r 96), aI E 2000 (fun _ => 0)), ((r 97), aI E 32 (fun _ => 0)), ((r 30), aI E 32 (fun _ => 0)), (h0, ob 12 (mfs (updG (updG (updG (updG (updG g 100 (.long 0)) 101 (.int (-1))) 90 (.int (nI 0))) 99 (.int (-1))) 98 (.int (nI 0))))), ((r 38), aI E 64 gx), ((r 39), aI E 64 gy), ((r 40), aI E 64 gw), ((r 41), aI E 64 gt), ((r 104), aI E 256 s2)] (qI E (fun (r : Int32) (_u : Unit) => r = ((gx 6) ||| ((gy 6) <<< ((nI 8) &&& 31))) ||| ((gw 6) <<< ((nI 16) &&& 31))) (fun _ => [((r 47), aI E 64 bx), ((r 48), aI E 64 by_), ((r 49), aI E 64 bw), ((r 92), aI E 32000 (upd (upd (upd (upd (upd (upd (fun _ => 0) 0 (((gx 0) ||| ((gy 0) <<< ((nI 8) &&& 31))) ||| ((gw 0) <<< ((nI 16) &&& 31)))) 1 (((gx 1) ||| ((gy 1) <<< ((nI 8) &&& 31))) ||| ((gw 1) <<< ((nI 16) &&& 31)))) 2 (((gx 2) ||| ((gy 2) <<< ((nI 8) &&& 31))) ||| ((gw 2) <<< ((nI 16) &&& 31)))) 3 (((gx 3) ||| ((gy 3) <<< ((nI 8) &&& 31))) ||| ((gw 3) <<< ((nI 16) &&& 31)))) 4 (((gx 4) ||| ((gy 4) <<< ((nI 8) &&& 31))) ||| ((gw 4) <<< ((nI 16) &&& 31)))) 5 (((gx 5) ||| ((gy 5) <<< ((nI 8) &&& 31))) ||| ((gw 5) <<< ((nI 16) &&& 31))))), ((r 93), aI E 2000 (fun _ => 0)), ((r 95), aJ E 2000 (fun _ => 0)), ((r 96), aI E 2000 (fun _ => 0)), ((r 97), aI E 32 (fun _ => 0)), ((r 30), aI E 32 (fun _ => 0)), (h0, ob 12 (mfs (updG (updG (updG (updG (updG g 100 (.long 0)) 101 (.int (-1))) 90 (.int (nI 0))) 99 (.int (-1))) 98 (.int (nI 0))))), ((r 38), aI E 64 gx), ((r 39), aI E 64 gy), ((r 40), aI E 64 gw), ((r 41), aI E 64 gt), ((r 104), aI E 256 s2)])) := by
  refine cM_of (by decide) (Nat.le_of_ble_eq_true rfl) ?_
  intro p e s m below meth c ls A F hA hS hP hD hK hZ hl
  obtain ⟨hx, hb, hr, hml, hown, hts, hlk, hin⟩ := id F
  have hown : s.vm.findClass RX12 = some m.cls := hown
  have hl : lv_has ls 2 [(0, .ref h0), (1, .int (nI 6))] := hl
  refine lv_aload_n hx hb dX12_packed_0 rfl (lv_at hl 0 rfl) ?_
  refine va_get (D := E.1) (ci := 12) (v := .ref (r 38)) (C := RX12) (T := TX12) (N := 116) hx hb hts iX12 hown hK hP 9 rfl rfl 38 (by decide) (hts _ wdF_RX12_71) (fun _ h9 => h9) ((mfs_get _ 38 (by decide)).trans (congrArg some (show (updG (updG (updG (updG (updG g 100 (.long 0)) 101 (.int (-1))) 90 (.int (nI 0))) 99 (.int (-1))) 98 (.int (nI 0))) 38 = .ref (r 38) from (hR 38 rfl)))) dX12_packed_1 ?_
  refine lv_iload_n hx hb dX12_packed_4 rfl (lv_at hl 1 rfl) ?_
  refine va_iald hx hb hK hP 10 1 rfl rfl (vp_in_nI (by decide) (by decide)) dX12_packed_5 ?_
  rw [nI_clamp (n := 6) (by decide)]
  refine lv_aload_n hx hb dX12_packed_6 rfl (lv_at hl 0 rfl) ?_
  refine va_get (D := E.1) (ci := 12) (v := .ref (r 39)) (C := RX12) (T := TX12) (N := 116) hx hb hts iX12 hown hK hP 9 rfl rfl 39 (by decide) (hts _ wdF_RX12_74) (fun _ h9 => h9) ((mfs_get _ 39 (by decide)).trans (congrArg some (show (updG (updG (updG (updG (updG g 100 (.long 0)) 101 (.int (-1))) 90 (.int (nI 0))) 99 (.int (-1))) 98 (.int (nI 0))) 39 = .ref (r 39) from (hR 39 rfl)))) dX12_packed_7 ?_
  refine lv_iload_n hx hb dX12_packed_10 rfl (lv_at hl 1 rfl) ?_
  refine va_iald hx hb hK hP 11 1 rfl rfl (vp_in_nI (by decide) (by decide)) dX12_packed_11 ?_
  rw [nI_clamp (n := 6) (by decide)]
  refine lv_bipush (v := nI 8) hx hb dX12_packed_12 (by decide) ?_
  refine lv_ishl hx hb dX12_packed_14 ?_
  refine lv_ior hx hb dX12_packed_15 ?_
  refine lv_aload_n hx hb dX12_packed_16 rfl (lv_at hl 0 rfl) ?_
  refine va_get (D := E.1) (ci := 12) (v := .ref (r 40)) (C := RX12) (T := TX12) (N := 116) hx hb hts iX12 hown hK hP 9 rfl rfl 40 (by decide) (hts _ wdF_RX12_77) (fun _ h9 => h9) ((mfs_get _ 40 (by decide)).trans (congrArg some (show (updG (updG (updG (updG (updG g 100 (.long 0)) 101 (.int (-1))) 90 (.int (nI 0))) 99 (.int (-1))) 98 (.int (nI 0))) 40 = .ref (r 40) from (hR 40 rfl)))) dX12_packed_17 ?_
  refine lv_iload_n hx hb dX12_packed_20 rfl (lv_at hl 1 rfl) ?_
  refine va_iald hx hb hK hP 12 1 rfl rfl (vp_in_nI (by decide) (by decide)) dX12_packed_21 ?_
  rw [nI_clamp (n := 6) (by decide)]
  refine lv_bipush (v := nI 16) hx hb dX12_packed_22 (by decide) ?_
  refine lv_ishl hx hb dX12_packed_24 ?_
  refine lv_ior hx hb dX12_packed_25 ?_
  exact cI_ret F hP hD hS hK () rfl [0, 1, 2, 3, 4, 5, 6, 7, 8, 9, 10, 11, 12, 13, 14] rfl rfl dX12_packed_26 (by decide) (by decide)
abbrev rm_z83_X12_packed : Room := { frames := 0, cells := 0, slots := 0, locals := 0 }
set_option maxHeartbeats 4000000 in
set_option maxRecDepth 100000 in
theorem z83_X12_packed (l : Launch) (E : cE) (h0 : Nat) (r : Nat → Nat) (g : Nat → Value) (gx : Nat → Int32) (gy : Nat → Int32) (gw : Nat → Int32) (gt : Nat → Int32) (fx : Nat → Int32) (fy : Nat → Int32) (fw : Nat → Int32) (bx : Nat → Int32) (by_ : Nat → Int32) (bw : Nat → Int32) (v : Int32) (s2 : Nat → Int32) (hR : mOK r g) (hI : ∀ k, k < 116 → mRef k = false → g k = mI k) (hm1 : flo (stC 0) (2 * 4) gx gy gw) (hm2 : ∀ d, d < 2 * 4 → gt d = 0) (hm3 : ∀ d, d < 2 * 4 → fx d = gx d ∧ fy d = gy d ∧ fw d = gw d) (hm4 : ∀ d, d < 2 * 4 → bx d = gx d ∧ by_ d = gy d ∧ bw d = gw d) : cM l E yX12_packed cX12_packed 2 (some .int) rm_z83_X12_packed [.ref h0, .int (nI 7)] [((r 47), aI E 64 bx), ((r 48), aI E 64 by_), ((r 49), aI E 64 bw), ((r 92), aI E 32000 (upd (upd (upd (upd (upd (upd (upd (fun _ => 0) 0 (((gx 0) ||| ((gy 0) <<< ((nI 8) &&& 31))) ||| ((gw 0) <<< ((nI 16) &&& 31)))) 1 (((gx 1) ||| ((gy 1) <<< ((nI 8) &&& 31))) ||| ((gw 1) <<< ((nI 16) &&& 31)))) 2 (((gx 2) ||| ((gy 2) <<< ((nI 8) &&& 31))) ||| ((gw 2) <<< ((nI 16) &&& 31)))) 3 (((gx 3) ||| ((gy 3) <<< ((nI 8) &&& 31))) ||| ((gw 3) <<< ((nI 16) &&& 31)))) 4 (((gx 4) ||| ((gy 4) <<< ((nI 8) &&& 31))) ||| ((gw 4) <<< ((nI 16) &&& 31)))) 5 (((gx 5) ||| ((gy 5) <<< ((nI 8) &&& 31))) ||| ((gw 5) <<< ((nI 16) &&& 31)))) 6 (((gx 6) ||| ((gy 6) <<< ((nI 8) &&& 31))) ||| ((gw 6) <<< ((nI 16) &&& 31))))), ((r 93), aI E 2000 (fun _ => 0)), ((r 95), aJ E 2000 (fun _ => 0)), ((r 96), aI E 2000 (fun _ => 0)), ((r 97), aI E 32 (fun _ => 0)), ((r 30), aI E 32 (fun _ => 0)), (h0, ob 12 (mfs (updG (updG (updG (updG (updG g 100 (.long 0)) 101 (.int (-1))) 90 (.int (nI 0))) 99 (.int (-1))) 98 (.int (nI 0))))), ((r 38), aI E 64 gx), ((r 39), aI E 64 gy), ((r 40), aI E 64 gw), ((r 41), aI E 64 gt), ((r 104), aI E 256 s2)] (qI E (fun (r : Int32) (_u : Unit) => r = ((gx 7) ||| ((gy 7) <<< ((nI 8) &&& 31))) ||| ((gw 7) <<< ((nI 16) &&& 31))) (fun _ => [((r 47), aI E 64 bx), ((r 48), aI E 64 by_), ((r 49), aI E 64 bw), ((r 92), aI E 32000 (upd (upd (upd (upd (upd (upd (upd (fun _ => 0) 0 (((gx 0) ||| ((gy 0) <<< ((nI 8) &&& 31))) ||| ((gw 0) <<< ((nI 16) &&& 31)))) 1 (((gx 1) ||| ((gy 1) <<< ((nI 8) &&& 31))) ||| ((gw 1) <<< ((nI 16) &&& 31)))) 2 (((gx 2) ||| ((gy 2) <<< ((nI 8) &&& 31))) ||| ((gw 2) <<< ((nI 16) &&& 31)))) 3 (((gx 3) ||| ((gy 3) <<< ((nI 8) &&& 31))) ||| ((gw 3) <<< ((nI 16) &&& 31)))) 4 (((gx 4) ||| ((gy 4) <<< ((nI 8) &&& 31))) ||| ((gw 4) <<< ((nI 16) &&& 31)))) 5 (((gx 5) ||| ((gy 5) <<< ((nI 8) &&& 31))) ||| ((gw 5) <<< ((nI 16) &&& 31)))) 6 (((gx 6) ||| ((gy 6) <<< ((nI 8) &&& 31))) ||| ((gw 6) <<< ((nI 16) &&& 31))))), ((r 93), aI E 2000 (fun _ => 0)), ((r 95), aJ E 2000 (fun _ => 0)), ((r 96), aI E 2000 (fun _ => 0)), ((r 97), aI E 32 (fun _ => 0)), ((r 30), aI E 32 (fun _ => 0)), (h0, ob 12 (mfs (updG (updG (updG (updG (updG g 100 (.long 0)) 101 (.int (-1))) 90 (.int (nI 0))) 99 (.int (-1))) 98 (.int (nI 0))))), ((r 38), aI E 64 gx), ((r 39), aI E 64 gy), ((r 40), aI E 64 gw), ((r 41), aI E 64 gt), ((r 104), aI E 256 s2)])) := by
  refine cM_of (by decide) (Nat.le_of_ble_eq_true rfl) ?_
  intro p e s m below meth c ls A F hA hS hP hD hK hZ hl
  obtain ⟨hx, hb, hr, hml, hown, hts, hlk, hin⟩ := id F
  have hown : s.vm.findClass RX12 = some m.cls := hown
  have hl : lv_has ls 2 [(0, .ref h0), (1, .int (nI 7))] := hl
  refine lv_aload_n hx hb dX12_packed_0 rfl (lv_at hl 0 rfl) ?_
  refine va_get (D := E.1) (ci := 12) (v := .ref (r 38)) (C := RX12) (T := TX12) (N := 116) hx hb hts iX12 hown hK hP 9 rfl rfl 38 (by decide) (hts _ wdF_RX12_71) (fun _ h9 => h9) ((mfs_get _ 38 (by decide)).trans (congrArg some (show (updG (updG (updG (updG (updG g 100 (.long 0)) 101 (.int (-1))) 90 (.int (nI 0))) 99 (.int (-1))) 98 (.int (nI 0))) 38 = .ref (r 38) from (hR 38 rfl)))) dX12_packed_1 ?_
  refine lv_iload_n hx hb dX12_packed_4 rfl (lv_at hl 1 rfl) ?_
  refine va_iald hx hb hK hP 10 1 rfl rfl (vp_in_nI (by decide) (by decide)) dX12_packed_5 ?_
  rw [nI_clamp (n := 7) (by decide)]
  refine lv_aload_n hx hb dX12_packed_6 rfl (lv_at hl 0 rfl) ?_
  refine va_get (D := E.1) (ci := 12) (v := .ref (r 39)) (C := RX12) (T := TX12) (N := 116) hx hb hts iX12 hown hK hP 9 rfl rfl 39 (by decide) (hts _ wdF_RX12_74) (fun _ h9 => h9) ((mfs_get _ 39 (by decide)).trans (congrArg some (show (updG (updG (updG (updG (updG g 100 (.long 0)) 101 (.int (-1))) 90 (.int (nI 0))) 99 (.int (-1))) 98 (.int (nI 0))) 39 = .ref (r 39) from (hR 39 rfl)))) dX12_packed_7 ?_
  refine lv_iload_n hx hb dX12_packed_10 rfl (lv_at hl 1 rfl) ?_
  refine va_iald hx hb hK hP 11 1 rfl rfl (vp_in_nI (by decide) (by decide)) dX12_packed_11 ?_
  rw [nI_clamp (n := 7) (by decide)]
  refine lv_bipush (v := nI 8) hx hb dX12_packed_12 (by decide) ?_
  refine lv_ishl hx hb dX12_packed_14 ?_
  refine lv_ior hx hb dX12_packed_15 ?_
  refine lv_aload_n hx hb dX12_packed_16 rfl (lv_at hl 0 rfl) ?_
  refine va_get (D := E.1) (ci := 12) (v := .ref (r 40)) (C := RX12) (T := TX12) (N := 116) hx hb hts iX12 hown hK hP 9 rfl rfl 40 (by decide) (hts _ wdF_RX12_77) (fun _ h9 => h9) ((mfs_get _ 40 (by decide)).trans (congrArg some (show (updG (updG (updG (updG (updG g 100 (.long 0)) 101 (.int (-1))) 90 (.int (nI 0))) 99 (.int (-1))) 98 (.int (nI 0))) 40 = .ref (r 40) from (hR 40 rfl)))) dX12_packed_17 ?_
  refine lv_iload_n hx hb dX12_packed_20 rfl (lv_at hl 1 rfl) ?_
  refine va_iald hx hb hK hP 12 1 rfl rfl (vp_in_nI (by decide) (by decide)) dX12_packed_21 ?_
  rw [nI_clamp (n := 7) (by decide)]
  refine lv_bipush (v := nI 16) hx hb dX12_packed_22 (by decide) ?_
  refine lv_ishl hx hb dX12_packed_24 ?_
  refine lv_ior hx hb dX12_packed_25 ?_
  exact cI_ret F hP hD hS hK () rfl [0, 1, 2, 3, 4, 5, 6, 7, 8, 9, 10, 11, 12, 13, 14] rfl rfl dX12_packed_26 (by decide) (by decide)
theorem dX12_meets_0 : decode cX12_meets 0 = .ok (.aload_n 0, 1) := by decide +kernel
theorem dX12_meets_1 : decode cX12_meets 1 = .ok (.getfield 623, 3) := by decide +kernel
theorem dX12_meets_4 : decode cX12_meets 4 = .ok (.sipush 2000, 3) := by decide +kernel
theorem dX12_meets_7 : decode cX12_meets 7 = .ok (.if_icmp .eq 13, 3) := by decide +kernel
theorem dX12_meets_10 : decode cX12_meets 10 = .ok (.aload_n 0, 1) := by decide +kernel
theorem dX12_meets_11 : decode cX12_meets 11 = .ok (.getfield 629, 3) := by decide +kernel
theorem dX12_meets_14 : decode cX12_meets 14 = .ok (.sipush 10000, 3) := by decide +kernel
theorem dX12_meets_17 : decode cX12_meets 17 = .ok (.if_icmp .ne 5, 3) := by decide +kernel
theorem dX12_meets_20 : decode cX12_meets 20 = .ok (.iconst 0, 1) := by decide +kernel
theorem dX12_meets_21 : decode cX12_meets 21 = .ok (.ireturn, 1) := by decide +kernel
theorem dX12_meets_22 : decode cX12_meets 22 = .ok (.iconst 0, 1) := by decide +kernel
theorem dX12_meets_23 : decode cX12_meets 23 = .ok (.istore_n 2, 1) := by decide +kernel
theorem dX12_meets_24 : decode cX12_meets 24 = .ok (.iload_n 2, 1) := by decide +kernel
theorem dX12_meets_25 : decode cX12_meets 25 = .ok (.aload_n 0, 1) := by decide +kernel
theorem dX12_meets_26 : decode cX12_meets 26 = .ok (.getfield 231, 3) := by decide +kernel
theorem dX12_meets_29 : decode cX12_meets 29 = .ok (.if_icmp .ge 28, 3) := by decide +kernel
theorem dX12_meets_32 : decode cX12_meets 32 = .ok (.aload_n 0, 1) := by decide +kernel
theorem dX12_meets_33 : decode cX12_meets 33 = .ok (.getfield 174, 3) := by decide +kernel
theorem dX12_meets_36 : decode cX12_meets 36 = .ok (.bipush 16, 2) := by decide +kernel
theorem dX12_meets_38 : decode cX12_meets 38 = .ok (.aload_n 0, 1) := by decide +kernel
theorem dX12_meets_39 : decode cX12_meets 39 = .ok (.getfield 623, 3) := by decide +kernel
theorem dX12_meets_42 : decode cX12_meets 42 = .ok (.imul, 1) := by decide +kernel
theorem dX12_meets_43 : decode cX12_meets 43 = .ok (.iload_n 2, 1) := by decide +kernel
theorem dX12_meets_44 : decode cX12_meets 44 = .ok (.iadd, 1) := by decide +kernel
theorem dX12_meets_45 : decode cX12_meets 45 = .ok (.aload_n 0, 1) := by decide +kernel
theorem dX12_meets_46 : decode cX12_meets 46 = .ok (.iload_n 2, 1) := by decide +kernel
theorem dX12_meets_47 : decode cX12_meets 47 = .ok (.invokevirtual 626, 3) := by decide +kernel
theorem dX12_meets_50 : decode cX12_meets 50 = .ok (.iastore, 1) := by decide +kernel
theorem dX12_meets_51 : decode cX12_meets 51 = .ok (.iinc 2 1, 3) := by decide +kernel
theorem dX12_meets_54 : decode cX12_meets 54 = .ok (.goto (-30), 3) := by decide +kernel
theorem dX12_meets_57 : decode cX12_meets 57 = .ok (.aload_n 0, 1) := by decide +kernel
theorem dX12_meets_58 : decode cX12_meets 58 = .ok (.getfield 177, 3) := by decide +kernel
theorem dX12_meets_61 : decode cX12_meets 61 = .ok (.aload_n 0, 1) := by decide +kernel
theorem dX12_meets_62 : decode cX12_meets 62 = .ok (.getfield 623, 3) := by decide +kernel
theorem dX12_meets_65 : decode cX12_meets 65 = .ok (.iload_n 1, 1) := by decide +kernel
theorem dX12_meets_66 : decode cX12_meets 66 = .ok (.iastore, 1) := by decide +kernel
theorem dX12_meets_67 : decode cX12_meets 67 = .ok (.aload_n 0, 1) := by decide +kernel
theorem dX12_meets_68 : decode cX12_meets 68 = .ok (.invokevirtual 632, 3) := by decide +kernel
theorem dX12_meets_71 : decode cX12_meets 71 = .ok (.ifCond .eq 11, 3) := by decide +kernel
theorem dX12_meets_74 : decode cX12_meets 74 = .ok (.aload_n 0, 1) := by decide +kernel
theorem dX12_meets_75 : decode cX12_meets 75 = .ok (.aload_n 0, 1) := by decide +kernel
theorem dX12_meets_76 : decode cX12_meets 76 = .ok (.getfield 623, 3) := by decide +kernel
theorem dX12_meets_79 : decode cX12_meets 79 = .ok (.putfield 193, 3) := by decide +kernel
theorem dX12_meets_82 : decode cX12_meets 82 = .ok (.aload_n 0, 1) := by decide +kernel
theorem dX12_meets_83 : decode cX12_meets 83 = .ok (.dup, 1) := by decide +kernel
theorem dX12_meets_84 : decode cX12_meets 84 = .ok (.getfield 623, 3) := by decide +kernel
theorem dX12_meets_87 : decode cX12_meets 87 = .ok (.iconst 1, 1) := by decide +kernel
theorem dX12_meets_88 : decode cX12_meets 88 = .ok (.iadd, 1) := by decide +kernel
theorem dX12_meets_89 : decode cX12_meets 89 = .ok (.putfield 623, 3) := by decide +kernel
theorem dX12_meets_92 : decode cX12_meets 92 = .ok (.aload_n 0, 1) := by decide +kernel
theorem dX12_meets_93 : decode cX12_meets 93 = .ok (.dup, 1) := by decide +kernel
theorem dX12_meets_94 : decode cX12_meets 94 = .ok (.getfield 629, 3) := by decide +kernel
theorem dX12_meets_97 : decode cX12_meets 97 = .ok (.iconst 1, 1) := by decide +kernel
theorem dX12_meets_98 : decode cX12_meets 98 = .ok (.iadd, 1) := by decide +kernel
theorem dX12_meets_99 : decode cX12_meets 99 = .ok (.putfield 629, 3) := by decide +kernel
theorem dX12_meets_102 : decode cX12_meets 102 = .ok (.iconst 1, 1) := by decide +kernel
theorem dX12_meets_103 : decode cX12_meets 103 = .ok (.ireturn, 1) := by decide +kernel
abbrev rm_z75_X12_meets : Room := { frames := 1, cells := 0, slots := 0, locals := 22 }
set_option maxHeartbeats 4000000 in
set_option maxRecDepth 100000 in
theorem z75_X12_meets (l : Launch) (E : cE) (h0 : Nat) (r : Nat → Nat) (g : Nat → Value) (gx : Nat → Int32) (gy : Nat → Int32) (gw : Nat → Int32) (gt : Nat → Int32) (fx : Nat → Int32) (fy : Nat → Int32) (fw : Nat → Int32) (bx : Nat → Int32) (by_ : Nat → Int32) (bw : Nat → Int32) (v : Int32) (s2 : Nat → Int32) (hR : mOK r g) (hI : ∀ k, k < 116 → mRef k = false → g k = mI k) (hm1 : flo (stC 0) (2 * 4) gx gy gw) (hm2 : ∀ d, d < 2 * 4 → gt d = 0) (hm3 : ∀ d, d < 2 * 4 → fx d = gx d ∧ fy d = gy d ∧ fw d = gw d) (hm4 : ∀ d, d < 2 * 4 → bx d = gx d ∧ by_ d = gy d ∧ bw d = gw d) : cM l E yX12_meets cX12_meets 3 (some .boolean) rm_z75_X12_meets [.ref h0, .int (nI 0)] [((r 47), aI E 64 bx), ((r 48), aI E 64 by_), ((r 49), aI E 64 bw), ((r 92), aI E 32000 (fun _ => 0)), ((r 93), aI E 2000 (fun _ => 0)), ((r 95), aJ E 2000 (fun _ => 0)), ((r 96), aI E 2000 (fun _ => 0)), ((r 97), aI E 32 (fun _ => 0)), ((r 30), aI E 32 (fun _ => 0)), (h0, ob 12 (mfs (updG (updG (updG (updG (updG g 100 (.long 0)) 101 (.int (-1))) 90 (.int (nI 0))) 99 (.int (-1))) 98 (.int (nI 0))))), ((r 38), aI E 64 gx), ((r 39), aI E 64 gy), ((r 40), aI E 64 gw), ((r 41), aI E 64 gt), ((r 104), aI E 256 s2)] (qI E (fun (r : Int32) (_u : Unit) => r = nI 1) (fun _ => [((r 92), aI E 32000 (upd (upd (upd (upd (upd (upd (upd (upd (fun _ => 0) 0 (((gx 0) ||| ((gy 0) <<< ((nI 8) &&& 31))) ||| ((gw 0) <<< ((nI 16) &&& 31)))) 1 (((gx 1) ||| ((gy 1) <<< ((nI 8) &&& 31))) ||| ((gw 1) <<< ((nI 16) &&& 31)))) 2 (((gx 2) ||| ((gy 2) <<< ((nI 8) &&& 31))) ||| ((gw 2) <<< ((nI 16) &&& 31)))) 3 (((gx 3) ||| ((gy 3) <<< ((nI 8) &&& 31))) ||| ((gw 3) <<< ((nI 16) &&& 31)))) 4 (((gx 4) ||| ((gy 4) <<< ((nI 8) &&& 31))) ||| ((gw 4) <<< ((nI 16) &&& 31)))) 5 (((gx 5) ||| ((gy 5) <<< ((nI 8) &&& 31))) ||| ((gw 5) <<< ((nI 16) &&& 31)))) 6 (((gx 6) ||| ((gy 6) <<< ((nI 8) &&& 31))) ||| ((gw 6) <<< ((nI 16) &&& 31)))) 7 (((gx 7) ||| ((gy 7) <<< ((nI 8) &&& 31))) ||| ((gw 7) <<< ((nI 16) &&& 31))))), ((r 93), aI E 2000 (upd (fun _ => 0) 0 (nI 0))), ((r 95), aJ E 2000 (fun _ => 0)), ((r 96), aI E 2000 (fun _ => 0)), ((r 97), aI E 32 (fun _ => 0)), ((r 30), aI E 32 (fun _ => 0)), ((r 41), aI E 64 gt), ((r 104), aI E 256 s2), (h0, ob 12 (mfs (updG (updG (updG (updG (updG (updG (updG (updG g 100 (.long 0)) 101 (.int (-1))) 90 (.int (nI 0))) 99 (.int (-1))) 98 (.int (nI 0))) 99 (.int (nI 0))) 90 (.int (nI 1))) 89 (.int (nI 1))))), ((r 38), aI E 64 gx), ((r 39), aI E 64 gy), ((r 40), aI E 64 gw), ((r 47), aI E 64 bx), ((r 48), aI E 64 by_), ((r 49), aI E 64 bw)])) := by
  refine cM_of (by decide) (Nat.le_of_ble_eq_true rfl) ?_
  intro p e s m below meth c ls A F hA hS hP hD hK hZ hl
  obtain ⟨hx, hb, hr, hml, hown, hts, hlk, hin⟩ := id F
  have hown : s.vm.findClass RX12 = some m.cls := hown
  have hl : lv_has ls 3 [(0, .ref h0), (1, .int (nI 0))] := hl
  refine lv_aload_n hx hb dX12_meets_0 rfl (lv_at hl 0 rfl) ?_
  refine va_get (D := E.1) (ci := 12) (v := .int (nI 0)) (C := RX12) (T := TX12) (N := 116) hx hb hts iX12 hown hK hP 9 rfl rfl 90 (by decide) (hts _ wdF_RX12_623) (fun _ h9 => h9) ((mfs_get _ 90 (by decide)).trans (congrArg some (show (updG (updG (updG (updG (updG g 100 (.long 0)) 101 (.int (-1))) 90 (.int (nI 0))) 99 (.int (-1))) 98 (.int (nI 0))) 90 = .int (nI 0) from rfl))) dX12_meets_1 ?_
  refine lv_sipush (v := nI 2000) hx hb dX12_meets_4 (by decide) ?_
  refine lv_icmp_eq (tgt := 20) hx hb dX12_meets_7 (by decide) (fun c_1043 => absurd c_1043 (by decide)) (fun c_1043 => ?_)
  refine lv_aload_n hx hb dX12_meets_10 rfl (lv_at hl 0 rfl) ?_
  refine va_get (D := E.1) (ci := 12) (v := .int (nI 0)) (C := RX12) (T := TX12) (N := 116) hx hb hts iX12 hown hK hP 9 rfl rfl 89 (by decide) (hts _ wdF_RX12_629) (fun _ h9 => h9) ((mfs_get _ 89 (by decide)).trans (congrArg some (show (updG (updG (updG (updG (updG g 100 (.long 0)) 101 (.int (-1))) 90 (.int (nI 0))) 99 (.int (-1))) 98 (.int (nI 0))) 89 = .int (nI 0) from (hI 89 (by decide) rfl)))) dX12_meets_11 ?_
  refine lv_sipush (v := nI 10000) hx hb dX12_meets_14 (by decide) ?_
  refine lv_icmp_ne (tgt := 22) hx hb dX12_meets_17 (by decide) (fun c_1044 => ?_) (fun c_1044 => absurd c_1044 (by decide))
  refine lv_iconst (v := nI 0) hx hb dX12_meets_22 (by decide) ?_
  refine lv_istore_n (lv' := [(2, .int (nI 0)), (0, .ref h0), (1, .int (nI 0))]) hx hb dX12_meets_23 rfl hl (by decide) rfl (fun ls hl => ?_)
  refine lv_iload_n hx hb dX12_meets_24 rfl (lv_at hl 0 rfl) ?_
  refine lv_aload_n hx hb dX12_meets_25 rfl (lv_at hl 1 rfl) ?_
  refine va_get (D := E.1) (ci := 12) (v := .int (nI 8)) (C := RX12) (T := TX12) (N := 116) hx hb hts iX12 hown hK hP 9 rfl rfl 37 (by decide) (hts _ wdF_RX12_231) (fun _ h9 => h9) ((mfs_get _ 37 (by decide)).trans (congrArg some (show (updG (updG (updG (updG (updG g 100 (.long 0)) 101 (.int (-1))) 90 (.int (nI 0))) 99 (.int (-1))) 98 (.int (nI 0))) 37 = .int (nI 8) from (hI 37 (by decide) rfl)))) dX12_meets_26 ?_
  refine lv_icmp_ge (tgt := 57) hx hb dX12_meets_29 (by decide) (fun c_1045 => absurd c_1045 (by decide)) (fun c_1045 => ?_)
  refine lv_aload_n hx hb dX12_meets_32 rfl (lv_at hl 1 rfl) ?_
  refine va_get (D := E.1) (ci := 12) (v := .ref (r 92)) (C := RX12) (T := TX12) (N := 116) hx hb hts iX12 hown hK hP 9 rfl rfl 92 (by decide) (hts _ wdF_RX12_174) (fun _ h9 => h9) ((mfs_get _ 92 (by decide)).trans (congrArg some (show (updG (updG (updG (updG (updG g 100 (.long 0)) 101 (.int (-1))) 90 (.int (nI 0))) 99 (.int (-1))) 98 (.int (nI 0))) 92 = .ref (r 92) from (hR 92 rfl)))) dX12_meets_33 ?_
  refine lv_bipush (v := nI 16) hx hb dX12_meets_36 (by decide) ?_
  refine lv_aload_n hx hb dX12_meets_38 rfl (lv_at hl 1 rfl) ?_
  refine va_get (D := E.1) (ci := 12) (v := .int (nI 0)) (C := RX12) (T := TX12) (N := 116) hx hb hts iX12 hown hK hP 9 rfl rfl 90 (by decide) (hts _ wdF_RX12_623) (fun _ h9 => h9) ((mfs_get _ 90 (by decide)).trans (congrArg some (show (updG (updG (updG (updG (updG g 100 (.long 0)) 101 (.int (-1))) 90 (.int (nI 0))) 99 (.int (-1))) 98 (.int (nI 0))) 90 = .int (nI 0) from rfl))) dX12_meets_39 ?_
  refine lv_imul hx hb dX12_meets_42 ?_
  rw [show ((nI 16) * (nI 0) : Int32) = nI 0 from by decide]
  refine lv_iload_n hx hb dX12_meets_43 rfl (lv_at hl 0 rfl) ?_
  refine lv_iadd hx hb dX12_meets_44 ?_
  rw [show ((nI 0) + (nI 0) : Int32) = nI 0 from by decide]
  refine lv_aload_n hx hb dX12_meets_45 rfl (lv_at hl 1 rfl) ?_
  refine lv_iload_n hx hb dX12_meets_46 rfl (lv_at hl 0 rfl) ?_
  refine cI_go (wr := []) (cM_runV (As := [.int (nI 0)]) (rest := [.int (nI 0), .ref (r 92)]) F (z76_X12_packed l E h0 r g gx gy gw gt fx fy fw bx by_ bw v s2 hR hI hm1 hm2 hm3 hm4) yy_X12_packed yi_X12_packed wdM_RX12_626 hP hD hS hK hZ hA [0, 1, 2, 3, 4, 5, 6, 7, 8, 9, 10, 11, 12, 13, 14] rfl rfl 9 12 rfl rfl rfl hl.1 rfl (Nat.le_of_ble_eq_true rfl) dX12_meets_47 ⟨by decide, by decide⟩ ⟨by decide, by decide⟩) hP hD hS hA [0, 1, 2, 3, 4, 5, 6, 7, 8, 9, 10, 11, 12, 13, 14] [] rfl rfl rfl (by decide) (fun r_1048 u_1047 H locs hw_1046 hP hD hS => ?_)
  try dsimp only at hw_1046
  have hP : va_P E.1 vwCl [((r 47), aI E 64 bx), ((r 48), aI E 64 by_), ((r 49), aI E 64 bw), ((r 92), aI E 32000 (fun _ => 0)), ((r 93), aI E 2000 (fun _ => 0)), ((r 95), aJ E 2000 (fun _ => 0)), ((r 96), aI E 2000 (fun _ => 0)), ((r 97), aI E 32 (fun _ => 0)), ((r 30), aI E 32 (fun _ => 0)), (h0, ob 12 (mfs (updG (updG (updG (updG (updG g 100 (.long 0)) 101 (.int (-1))) 90 (.int (nI 0))) 99 (.int (-1))) 98 (.int (nI 0))))), ((r 38), aI E 64 gx), ((r 39), aI E 64 gy), ((r 40), aI E 64 gw), ((r 41), aI E 64 gt), ((r 104), aI E 256 s2)] H := hP
  have hD : va_D A [((r 47), aI E 64 bx), ((r 48), aI E 64 by_), ((r 49), aI E 64 bw), ((r 92), aI E 32000 (fun _ => 0)), ((r 93), aI E 2000 (fun _ => 0)), ((r 95), aJ E 2000 (fun _ => 0)), ((r 96), aI E 2000 (fun _ => 0)), ((r 97), aI E 32 (fun _ => 0)), ((r 30), aI E 32 (fun _ => 0)), (h0, ob 12 (mfs (updG (updG (updG (updG (updG g 100 (.long 0)) 101 (.int (-1))) 90 (.int (nI 0))) 99 (.int (-1))) 98 (.int (nI 0))))), ((r 38), aI E 64 gx), ((r 39), aI E 64 gy), ((r 40), aI E 64 gw), ((r 41), aI E 64 gt), ((r 104), aI E 256 s2)] := hD
  subst hw_1046
  refine va_iast hx hb hK hP hD hS 3 1 rfl rfl (vp_in_nI (by decide) (by decide)) dX12_meets_50 (fun H locs hP hD hS => ?_)
  have hP : va_P E.1 vwCl [((r 47), aI E 64 bx), ((r 48), aI E 64 by_), ((r 49), aI E 64 bw), ((r 92), aI E 32000 (upd (fun _ => 0) (nI 0).toNatClampNeg (((gx 0) ||| ((gy 0) <<< ((nI 8) &&& 31))) ||| ((gw 0) <<< ((nI 16) &&& 31))))), ((r 93), aI E 2000 (fun _ => 0)), ((r 95), aJ E 2000 (fun _ => 0)), ((r 96), aI E 2000 (fun _ => 0)), ((r 97), aI E 32 (fun _ => 0)), ((r 30), aI E 32 (fun _ => 0)), (h0, ob 12 (mfs (updG (updG (updG (updG (updG g 100 (.long 0)) 101 (.int (-1))) 90 (.int (nI 0))) 99 (.int (-1))) 98 (.int (nI 0))))), ((r 38), aI E 64 gx), ((r 39), aI E 64 gy), ((r 40), aI E 64 gw), ((r 41), aI E 64 gt), ((r 104), aI E 256 s2)] H := hP
  have hD : va_D A [((r 47), aI E 64 bx), ((r 48), aI E 64 by_), ((r 49), aI E 64 bw), ((r 92), aI E 32000 (upd (fun _ => 0) (nI 0).toNatClampNeg (((gx 0) ||| ((gy 0) <<< ((nI 8) &&& 31))) ||| ((gw 0) <<< ((nI 16) &&& 31))))), ((r 93), aI E 2000 (fun _ => 0)), ((r 95), aJ E 2000 (fun _ => 0)), ((r 96), aI E 2000 (fun _ => 0)), ((r 97), aI E 32 (fun _ => 0)), ((r 30), aI E 32 (fun _ => 0)), (h0, ob 12 (mfs (updG (updG (updG (updG (updG g 100 (.long 0)) 101 (.int (-1))) 90 (.int (nI 0))) 99 (.int (-1))) 98 (.int (nI 0))))), ((r 38), aI E 64 gx), ((r 39), aI E 64 gy), ((r 40), aI E 64 gw), ((r 41), aI E 64 gt), ((r 104), aI E 256 s2)] := hD
  rw [nI_clamp (n := 0) (by decide)] at hP hD
  refine lv_iinc (v := nI 1) (lv' := [(2, .int (nI 1)), (0, .ref h0), (1, .int (nI 0))]) hx hb dX12_meets_51 hl (k := 0) rfl (by decide) (by decide) rfl (fun ls hl => ?_)
  refine lv_goto (tgt := 24) hx hb dX12_meets_54 (by decide) ?_
  refine lv_iload_n hx hb dX12_meets_24 rfl (lv_at hl 0 rfl) ?_
  refine lv_aload_n hx hb dX12_meets_25 rfl (lv_at hl 1 rfl) ?_
  refine va_get (D := E.1) (ci := 12) (v := .int (nI 8)) (C := RX12) (T := TX12) (N := 116) hx hb hts iX12 hown hK hP 9 rfl rfl 37 (by decide) (hts _ wdF_RX12_231) (fun _ h9 => h9) ((mfs_get _ 37 (by decide)).trans (congrArg some (show (updG (updG (updG (updG (updG g 100 (.long 0)) 101 (.int (-1))) 90 (.int (nI 0))) 99 (.int (-1))) 98 (.int (nI 0))) 37 = .int (nI 8) from (hI 37 (by decide) rfl)))) dX12_meets_26 ?_
  refine lv_icmp_ge (tgt := 57) hx hb dX12_meets_29 (by decide) (fun c_1049 => absurd c_1049 (by decide)) (fun c_1049 => ?_)
  refine lv_aload_n hx hb dX12_meets_32 rfl (lv_at hl 1 rfl) ?_
  refine va_get (D := E.1) (ci := 12) (v := .ref (r 92)) (C := RX12) (T := TX12) (N := 116) hx hb hts iX12 hown hK hP 9 rfl rfl 92 (by decide) (hts _ wdF_RX12_174) (fun _ h9 => h9) ((mfs_get _ 92 (by decide)).trans (congrArg some (show (updG (updG (updG (updG (updG g 100 (.long 0)) 101 (.int (-1))) 90 (.int (nI 0))) 99 (.int (-1))) 98 (.int (nI 0))) 92 = .ref (r 92) from (hR 92 rfl)))) dX12_meets_33 ?_
  refine lv_bipush (v := nI 16) hx hb dX12_meets_36 (by decide) ?_
  refine lv_aload_n hx hb dX12_meets_38 rfl (lv_at hl 1 rfl) ?_
  refine va_get (D := E.1) (ci := 12) (v := .int (nI 0)) (C := RX12) (T := TX12) (N := 116) hx hb hts iX12 hown hK hP 9 rfl rfl 90 (by decide) (hts _ wdF_RX12_623) (fun _ h9 => h9) ((mfs_get _ 90 (by decide)).trans (congrArg some (show (updG (updG (updG (updG (updG g 100 (.long 0)) 101 (.int (-1))) 90 (.int (nI 0))) 99 (.int (-1))) 98 (.int (nI 0))) 90 = .int (nI 0) from rfl))) dX12_meets_39 ?_
  refine lv_imul hx hb dX12_meets_42 ?_
  rw [show ((nI 16) * (nI 0) : Int32) = nI 0 from by decide]
  refine lv_iload_n hx hb dX12_meets_43 rfl (lv_at hl 0 rfl) ?_
  refine lv_iadd hx hb dX12_meets_44 ?_
  rw [show ((nI 0) + (nI 1) : Int32) = nI 1 from by decide]
  refine lv_aload_n hx hb dX12_meets_45 rfl (lv_at hl 1 rfl) ?_
  refine lv_iload_n hx hb dX12_meets_46 rfl (lv_at hl 0 rfl) ?_
  refine cI_go (wr := []) (cM_runV (As := [.int (nI 1)]) (rest := [.int (nI 1), .ref (r 92)]) F (z77_X12_packed l E h0 r g gx gy gw gt fx fy fw bx by_ bw v s2 hR hI hm1 hm2 hm3 hm4) yy_X12_packed yi_X12_packed wdM_RX12_626 hP hD hS hK hZ hA [0, 1, 2, 3, 4, 5, 6, 7, 8, 9, 10, 11, 12, 13, 14] rfl rfl 9 12 rfl rfl rfl hl.1 rfl (Nat.le_of_ble_eq_true rfl) dX12_meets_47 ⟨by decide, by decide⟩ ⟨by decide, by decide⟩) hP hD hS hA [0, 1, 2, 3, 4, 5, 6, 7, 8, 9, 10, 11, 12, 13, 14] [] rfl rfl rfl (by decide) (fun r_1052 u_1051 H locs hw_1050 hP hD hS => ?_)
  try dsimp only at hw_1050
  have hP : va_P E.1 vwCl [((r 47), aI E 64 bx), ((r 48), aI E 64 by_), ((r 49), aI E 64 bw), ((r 92), aI E 32000 (upd (fun _ => 0) 0 (((gx 0) ||| ((gy 0) <<< ((nI 8) &&& 31))) ||| ((gw 0) <<< ((nI 16) &&& 31))))), ((r 93), aI E 2000 (fun _ => 0)), ((r 95), aJ E 2000 (fun _ => 0)), ((r 96), aI E 2000 (fun _ => 0)), ((r 97), aI E 32 (fun _ => 0)), ((r 30), aI E 32 (fun _ => 0)), (h0, ob 12 (mfs (updG (updG (updG (updG (updG g 100 (.long 0)) 101 (.int (-1))) 90 (.int (nI 0))) 99 (.int (-1))) 98 (.int (nI 0))))), ((r 38), aI E 64 gx), ((r 39), aI E 64 gy), ((r 40), aI E 64 gw), ((r 41), aI E 64 gt), ((r 104), aI E 256 s2)] H := hP
  have hD : va_D A [((r 47), aI E 64 bx), ((r 48), aI E 64 by_), ((r 49), aI E 64 bw), ((r 92), aI E 32000 (upd (fun _ => 0) 0 (((gx 0) ||| ((gy 0) <<< ((nI 8) &&& 31))) ||| ((gw 0) <<< ((nI 16) &&& 31))))), ((r 93), aI E 2000 (fun _ => 0)), ((r 95), aJ E 2000 (fun _ => 0)), ((r 96), aI E 2000 (fun _ => 0)), ((r 97), aI E 32 (fun _ => 0)), ((r 30), aI E 32 (fun _ => 0)), (h0, ob 12 (mfs (updG (updG (updG (updG (updG g 100 (.long 0)) 101 (.int (-1))) 90 (.int (nI 0))) 99 (.int (-1))) 98 (.int (nI 0))))), ((r 38), aI E 64 gx), ((r 39), aI E 64 gy), ((r 40), aI E 64 gw), ((r 41), aI E 64 gt), ((r 104), aI E 256 s2)] := hD
  subst hw_1050
  refine va_iast hx hb hK hP hD hS 3 1 rfl rfl (vp_in_nI (by decide) (by decide)) dX12_meets_50 (fun H locs hP hD hS => ?_)
  have hP : va_P E.1 vwCl [((r 47), aI E 64 bx), ((r 48), aI E 64 by_), ((r 49), aI E 64 bw), ((r 92), aI E 32000 (upd (upd (fun _ => 0) 0 (((gx 0) ||| ((gy 0) <<< ((nI 8) &&& 31))) ||| ((gw 0) <<< ((nI 16) &&& 31)))) (nI 1).toNatClampNeg (((gx 1) ||| ((gy 1) <<< ((nI 8) &&& 31))) ||| ((gw 1) <<< ((nI 16) &&& 31))))), ((r 93), aI E 2000 (fun _ => 0)), ((r 95), aJ E 2000 (fun _ => 0)), ((r 96), aI E 2000 (fun _ => 0)), ((r 97), aI E 32 (fun _ => 0)), ((r 30), aI E 32 (fun _ => 0)), (h0, ob 12 (mfs (updG (updG (updG (updG (updG g 100 (.long 0)) 101 (.int (-1))) 90 (.int (nI 0))) 99 (.int (-1))) 98 (.int (nI 0))))), ((r 38), aI E 64 gx), ((r 39), aI E 64 gy), ((r 40), aI E 64 gw), ((r 41), aI E 64 gt), ((r 104), aI E 256 s2)] H := hP
  have hD : va_D A [((r 47), aI E 64 bx), ((r 48), aI E 64 by_), ((r 49), aI E 64 bw), ((r 92), aI E 32000 (upd (upd (fun _ => 0) 0 (((gx 0) ||| ((gy 0) <<< ((nI 8) &&& 31))) ||| ((gw 0) <<< ((nI 16) &&& 31)))) (nI 1).toNatClampNeg (((gx 1) ||| ((gy 1) <<< ((nI 8) &&& 31))) ||| ((gw 1) <<< ((nI 16) &&& 31))))), ((r 93), aI E 2000 (fun _ => 0)), ((r 95), aJ E 2000 (fun _ => 0)), ((r 96), aI E 2000 (fun _ => 0)), ((r 97), aI E 32 (fun _ => 0)), ((r 30), aI E 32 (fun _ => 0)), (h0, ob 12 (mfs (updG (updG (updG (updG (updG g 100 (.long 0)) 101 (.int (-1))) 90 (.int (nI 0))) 99 (.int (-1))) 98 (.int (nI 0))))), ((r 38), aI E 64 gx), ((r 39), aI E 64 gy), ((r 40), aI E 64 gw), ((r 41), aI E 64 gt), ((r 104), aI E 256 s2)] := hD
  rw [nI_clamp (n := 1) (by decide)] at hP hD
  refine lv_iinc (v := nI 2) (lv' := [(2, .int (nI 2)), (0, .ref h0), (1, .int (nI 0))]) hx hb dX12_meets_51 hl (k := 0) rfl (by decide) (by decide) rfl (fun ls hl => ?_)
  refine lv_goto (tgt := 24) hx hb dX12_meets_54 (by decide) ?_
  refine lv_iload_n hx hb dX12_meets_24 rfl (lv_at hl 0 rfl) ?_
  refine lv_aload_n hx hb dX12_meets_25 rfl (lv_at hl 1 rfl) ?_
  refine va_get (D := E.1) (ci := 12) (v := .int (nI 8)) (C := RX12) (T := TX12) (N := 116) hx hb hts iX12 hown hK hP 9 rfl rfl 37 (by decide) (hts _ wdF_RX12_231) (fun _ h9 => h9) ((mfs_get _ 37 (by decide)).trans (congrArg some (show (updG (updG (updG (updG (updG g 100 (.long 0)) 101 (.int (-1))) 90 (.int (nI 0))) 99 (.int (-1))) 98 (.int (nI 0))) 37 = .int (nI 8) from (hI 37 (by decide) rfl)))) dX12_meets_26 ?_
  refine lv_icmp_ge (tgt := 57) hx hb dX12_meets_29 (by decide) (fun c_1053 => absurd c_1053 (by decide)) (fun c_1053 => ?_)
  refine lv_aload_n hx hb dX12_meets_32 rfl (lv_at hl 1 rfl) ?_
  refine va_get (D := E.1) (ci := 12) (v := .ref (r 92)) (C := RX12) (T := TX12) (N := 116) hx hb hts iX12 hown hK hP 9 rfl rfl 92 (by decide) (hts _ wdF_RX12_174) (fun _ h9 => h9) ((mfs_get _ 92 (by decide)).trans (congrArg some (show (updG (updG (updG (updG (updG g 100 (.long 0)) 101 (.int (-1))) 90 (.int (nI 0))) 99 (.int (-1))) 98 (.int (nI 0))) 92 = .ref (r 92) from (hR 92 rfl)))) dX12_meets_33 ?_
  refine lv_bipush (v := nI 16) hx hb dX12_meets_36 (by decide) ?_
  refine lv_aload_n hx hb dX12_meets_38 rfl (lv_at hl 1 rfl) ?_
  refine va_get (D := E.1) (ci := 12) (v := .int (nI 0)) (C := RX12) (T := TX12) (N := 116) hx hb hts iX12 hown hK hP 9 rfl rfl 90 (by decide) (hts _ wdF_RX12_623) (fun _ h9 => h9) ((mfs_get _ 90 (by decide)).trans (congrArg some (show (updG (updG (updG (updG (updG g 100 (.long 0)) 101 (.int (-1))) 90 (.int (nI 0))) 99 (.int (-1))) 98 (.int (nI 0))) 90 = .int (nI 0) from rfl))) dX12_meets_39 ?_
  refine lv_imul hx hb dX12_meets_42 ?_
  rw [show ((nI 16) * (nI 0) : Int32) = nI 0 from by decide]
  refine lv_iload_n hx hb dX12_meets_43 rfl (lv_at hl 0 rfl) ?_
  refine lv_iadd hx hb dX12_meets_44 ?_
  rw [show ((nI 0) + (nI 2) : Int32) = nI 2 from by decide]
  refine lv_aload_n hx hb dX12_meets_45 rfl (lv_at hl 1 rfl) ?_
  refine lv_iload_n hx hb dX12_meets_46 rfl (lv_at hl 0 rfl) ?_
  refine cI_go (wr := []) (cM_runV (As := [.int (nI 2)]) (rest := [.int (nI 2), .ref (r 92)]) F (z78_X12_packed l E h0 r g gx gy gw gt fx fy fw bx by_ bw v s2 hR hI hm1 hm2 hm3 hm4) yy_X12_packed yi_X12_packed wdM_RX12_626 hP hD hS hK hZ hA [0, 1, 2, 3, 4, 5, 6, 7, 8, 9, 10, 11, 12, 13, 14] rfl rfl 9 12 rfl rfl rfl hl.1 rfl (Nat.le_of_ble_eq_true rfl) dX12_meets_47 ⟨by decide, by decide⟩ ⟨by decide, by decide⟩) hP hD hS hA [0, 1, 2, 3, 4, 5, 6, 7, 8, 9, 10, 11, 12, 13, 14] [] rfl rfl rfl (by decide) (fun r_1056 u_1055 H locs hw_1054 hP hD hS => ?_)
  try dsimp only at hw_1054
  have hP : va_P E.1 vwCl [((r 47), aI E 64 bx), ((r 48), aI E 64 by_), ((r 49), aI E 64 bw), ((r 92), aI E 32000 (upd (upd (fun _ => 0) 0 (((gx 0) ||| ((gy 0) <<< ((nI 8) &&& 31))) ||| ((gw 0) <<< ((nI 16) &&& 31)))) 1 (((gx 1) ||| ((gy 1) <<< ((nI 8) &&& 31))) ||| ((gw 1) <<< ((nI 16) &&& 31))))), ((r 93), aI E 2000 (fun _ => 0)), ((r 95), aJ E 2000 (fun _ => 0)), ((r 96), aI E 2000 (fun _ => 0)), ((r 97), aI E 32 (fun _ => 0)), ((r 30), aI E 32 (fun _ => 0)), (h0, ob 12 (mfs (updG (updG (updG (updG (updG g 100 (.long 0)) 101 (.int (-1))) 90 (.int (nI 0))) 99 (.int (-1))) 98 (.int (nI 0))))), ((r 38), aI E 64 gx), ((r 39), aI E 64 gy), ((r 40), aI E 64 gw), ((r 41), aI E 64 gt), ((r 104), aI E 256 s2)] H := hP
  have hD : va_D A [((r 47), aI E 64 bx), ((r 48), aI E 64 by_), ((r 49), aI E 64 bw), ((r 92), aI E 32000 (upd (upd (fun _ => 0) 0 (((gx 0) ||| ((gy 0) <<< ((nI 8) &&& 31))) ||| ((gw 0) <<< ((nI 16) &&& 31)))) 1 (((gx 1) ||| ((gy 1) <<< ((nI 8) &&& 31))) ||| ((gw 1) <<< ((nI 16) &&& 31))))), ((r 93), aI E 2000 (fun _ => 0)), ((r 95), aJ E 2000 (fun _ => 0)), ((r 96), aI E 2000 (fun _ => 0)), ((r 97), aI E 32 (fun _ => 0)), ((r 30), aI E 32 (fun _ => 0)), (h0, ob 12 (mfs (updG (updG (updG (updG (updG g 100 (.long 0)) 101 (.int (-1))) 90 (.int (nI 0))) 99 (.int (-1))) 98 (.int (nI 0))))), ((r 38), aI E 64 gx), ((r 39), aI E 64 gy), ((r 40), aI E 64 gw), ((r 41), aI E 64 gt), ((r 104), aI E 256 s2)] := hD
  subst hw_1054
  refine va_iast hx hb hK hP hD hS 3 1 rfl rfl (vp_in_nI (by decide) (by decide)) dX12_meets_50 (fun H locs hP hD hS => ?_)
  have hP : va_P E.1 vwCl [((r 47), aI E 64 bx), ((r 48), aI E 64 by_), ((r 49), aI E 64 bw), ((r 92), aI E 32000 (upd (upd (upd (fun _ => 0) 0 (((gx 0) ||| ((gy 0) <<< ((nI 8) &&& 31))) ||| ((gw 0) <<< ((nI 16) &&& 31)))) 1 (((gx 1) ||| ((gy 1) <<< ((nI 8) &&& 31))) ||| ((gw 1) <<< ((nI 16) &&& 31)))) (nI 2).toNatClampNeg (((gx 2) ||| ((gy 2) <<< ((nI 8) &&& 31))) ||| ((gw 2) <<< ((nI 16) &&& 31))))), ((r 93), aI E 2000 (fun _ => 0)), ((r 95), aJ E 2000 (fun _ => 0)), ((r 96), aI E 2000 (fun _ => 0)), ((r 97), aI E 32 (fun _ => 0)), ((r 30), aI E 32 (fun _ => 0)), (h0, ob 12 (mfs (updG (updG (updG (updG (updG g 100 (.long 0)) 101 (.int (-1))) 90 (.int (nI 0))) 99 (.int (-1))) 98 (.int (nI 0))))), ((r 38), aI E 64 gx), ((r 39), aI E 64 gy), ((r 40), aI E 64 gw), ((r 41), aI E 64 gt), ((r 104), aI E 256 s2)] H := hP
  have hD : va_D A [((r 47), aI E 64 bx), ((r 48), aI E 64 by_), ((r 49), aI E 64 bw), ((r 92), aI E 32000 (upd (upd (upd (fun _ => 0) 0 (((gx 0) ||| ((gy 0) <<< ((nI 8) &&& 31))) ||| ((gw 0) <<< ((nI 16) &&& 31)))) 1 (((gx 1) ||| ((gy 1) <<< ((nI 8) &&& 31))) ||| ((gw 1) <<< ((nI 16) &&& 31)))) (nI 2).toNatClampNeg (((gx 2) ||| ((gy 2) <<< ((nI 8) &&& 31))) ||| ((gw 2) <<< ((nI 16) &&& 31))))), ((r 93), aI E 2000 (fun _ => 0)), ((r 95), aJ E 2000 (fun _ => 0)), ((r 96), aI E 2000 (fun _ => 0)), ((r 97), aI E 32 (fun _ => 0)), ((r 30), aI E 32 (fun _ => 0)), (h0, ob 12 (mfs (updG (updG (updG (updG (updG g 100 (.long 0)) 101 (.int (-1))) 90 (.int (nI 0))) 99 (.int (-1))) 98 (.int (nI 0))))), ((r 38), aI E 64 gx), ((r 39), aI E 64 gy), ((r 40), aI E 64 gw), ((r 41), aI E 64 gt), ((r 104), aI E 256 s2)] := hD
  rw [nI_clamp (n := 2) (by decide)] at hP hD
  refine lv_iinc (v := nI 3) (lv' := [(2, .int (nI 3)), (0, .ref h0), (1, .int (nI 0))]) hx hb dX12_meets_51 hl (k := 0) rfl (by decide) (by decide) rfl (fun ls hl => ?_)
  refine lv_goto (tgt := 24) hx hb dX12_meets_54 (by decide) ?_
  refine lv_iload_n hx hb dX12_meets_24 rfl (lv_at hl 0 rfl) ?_
  refine lv_aload_n hx hb dX12_meets_25 rfl (lv_at hl 1 rfl) ?_
  refine va_get (D := E.1) (ci := 12) (v := .int (nI 8)) (C := RX12) (T := TX12) (N := 116) hx hb hts iX12 hown hK hP 9 rfl rfl 37 (by decide) (hts _ wdF_RX12_231) (fun _ h9 => h9) ((mfs_get _ 37 (by decide)).trans (congrArg some (show (updG (updG (updG (updG (updG g 100 (.long 0)) 101 (.int (-1))) 90 (.int (nI 0))) 99 (.int (-1))) 98 (.int (nI 0))) 37 = .int (nI 8) from (hI 37 (by decide) rfl)))) dX12_meets_26 ?_
  refine lv_icmp_ge (tgt := 57) hx hb dX12_meets_29 (by decide) (fun c_1057 => absurd c_1057 (by decide)) (fun c_1057 => ?_)
  refine lv_aload_n hx hb dX12_meets_32 rfl (lv_at hl 1 rfl) ?_
  refine va_get (D := E.1) (ci := 12) (v := .ref (r 92)) (C := RX12) (T := TX12) (N := 116) hx hb hts iX12 hown hK hP 9 rfl rfl 92 (by decide) (hts _ wdF_RX12_174) (fun _ h9 => h9) ((mfs_get _ 92 (by decide)).trans (congrArg some (show (updG (updG (updG (updG (updG g 100 (.long 0)) 101 (.int (-1))) 90 (.int (nI 0))) 99 (.int (-1))) 98 (.int (nI 0))) 92 = .ref (r 92) from (hR 92 rfl)))) dX12_meets_33 ?_
  refine lv_bipush (v := nI 16) hx hb dX12_meets_36 (by decide) ?_
  refine lv_aload_n hx hb dX12_meets_38 rfl (lv_at hl 1 rfl) ?_
  refine va_get (D := E.1) (ci := 12) (v := .int (nI 0)) (C := RX12) (T := TX12) (N := 116) hx hb hts iX12 hown hK hP 9 rfl rfl 90 (by decide) (hts _ wdF_RX12_623) (fun _ h9 => h9) ((mfs_get _ 90 (by decide)).trans (congrArg some (show (updG (updG (updG (updG (updG g 100 (.long 0)) 101 (.int (-1))) 90 (.int (nI 0))) 99 (.int (-1))) 98 (.int (nI 0))) 90 = .int (nI 0) from rfl))) dX12_meets_39 ?_
  refine lv_imul hx hb dX12_meets_42 ?_
  rw [show ((nI 16) * (nI 0) : Int32) = nI 0 from by decide]
  refine lv_iload_n hx hb dX12_meets_43 rfl (lv_at hl 0 rfl) ?_
  refine lv_iadd hx hb dX12_meets_44 ?_
  rw [show ((nI 0) + (nI 3) : Int32) = nI 3 from by decide]
  refine lv_aload_n hx hb dX12_meets_45 rfl (lv_at hl 1 rfl) ?_
  refine lv_iload_n hx hb dX12_meets_46 rfl (lv_at hl 0 rfl) ?_
  refine cI_go (wr := []) (cM_runV (As := [.int (nI 3)]) (rest := [.int (nI 3), .ref (r 92)]) F (z79_X12_packed l E h0 r g gx gy gw gt fx fy fw bx by_ bw v s2 hR hI hm1 hm2 hm3 hm4) yy_X12_packed yi_X12_packed wdM_RX12_626 hP hD hS hK hZ hA [0, 1, 2, 3, 4, 5, 6, 7, 8, 9, 10, 11, 12, 13, 14] rfl rfl 9 12 rfl rfl rfl hl.1 rfl (Nat.le_of_ble_eq_true rfl) dX12_meets_47 ⟨by decide, by decide⟩ ⟨by decide, by decide⟩) hP hD hS hA [0, 1, 2, 3, 4, 5, 6, 7, 8, 9, 10, 11, 12, 13, 14] [] rfl rfl rfl (by decide) (fun r_1060 u_1059 H locs hw_1058 hP hD hS => ?_)
  try dsimp only at hw_1058
  have hP : va_P E.1 vwCl [((r 47), aI E 64 bx), ((r 48), aI E 64 by_), ((r 49), aI E 64 bw), ((r 92), aI E 32000 (upd (upd (upd (fun _ => 0) 0 (((gx 0) ||| ((gy 0) <<< ((nI 8) &&& 31))) ||| ((gw 0) <<< ((nI 16) &&& 31)))) 1 (((gx 1) ||| ((gy 1) <<< ((nI 8) &&& 31))) ||| ((gw 1) <<< ((nI 16) &&& 31)))) 2 (((gx 2) ||| ((gy 2) <<< ((nI 8) &&& 31))) ||| ((gw 2) <<< ((nI 16) &&& 31))))), ((r 93), aI E 2000 (fun _ => 0)), ((r 95), aJ E 2000 (fun _ => 0)), ((r 96), aI E 2000 (fun _ => 0)), ((r 97), aI E 32 (fun _ => 0)), ((r 30), aI E 32 (fun _ => 0)), (h0, ob 12 (mfs (updG (updG (updG (updG (updG g 100 (.long 0)) 101 (.int (-1))) 90 (.int (nI 0))) 99 (.int (-1))) 98 (.int (nI 0))))), ((r 38), aI E 64 gx), ((r 39), aI E 64 gy), ((r 40), aI E 64 gw), ((r 41), aI E 64 gt), ((r 104), aI E 256 s2)] H := hP
  have hD : va_D A [((r 47), aI E 64 bx), ((r 48), aI E 64 by_), ((r 49), aI E 64 bw), ((r 92), aI E 32000 (upd (upd (upd (fun _ => 0) 0 (((gx 0) ||| ((gy 0) <<< ((nI 8) &&& 31))) ||| ((gw 0) <<< ((nI 16) &&& 31)))) 1 (((gx 1) ||| ((gy 1) <<< ((nI 8) &&& 31))) ||| ((gw 1) <<< ((nI 16) &&& 31)))) 2 (((gx 2) ||| ((gy 2) <<< ((nI 8) &&& 31))) ||| ((gw 2) <<< ((nI 16) &&& 31))))), ((r 93), aI E 2000 (fun _ => 0)), ((r 95), aJ E 2000 (fun _ => 0)), ((r 96), aI E 2000 (fun _ => 0)), ((r 97), aI E 32 (fun _ => 0)), ((r 30), aI E 32 (fun _ => 0)), (h0, ob 12 (mfs (updG (updG (updG (updG (updG g 100 (.long 0)) 101 (.int (-1))) 90 (.int (nI 0))) 99 (.int (-1))) 98 (.int (nI 0))))), ((r 38), aI E 64 gx), ((r 39), aI E 64 gy), ((r 40), aI E 64 gw), ((r 41), aI E 64 gt), ((r 104), aI E 256 s2)] := hD
  subst hw_1058
  refine va_iast hx hb hK hP hD hS 3 1 rfl rfl (vp_in_nI (by decide) (by decide)) dX12_meets_50 (fun H locs hP hD hS => ?_)
  have hP : va_P E.1 vwCl [((r 47), aI E 64 bx), ((r 48), aI E 64 by_), ((r 49), aI E 64 bw), ((r 92), aI E 32000 (upd (upd (upd (upd (fun _ => 0) 0 (((gx 0) ||| ((gy 0) <<< ((nI 8) &&& 31))) ||| ((gw 0) <<< ((nI 16) &&& 31)))) 1 (((gx 1) ||| ((gy 1) <<< ((nI 8) &&& 31))) ||| ((gw 1) <<< ((nI 16) &&& 31)))) 2 (((gx 2) ||| ((gy 2) <<< ((nI 8) &&& 31))) ||| ((gw 2) <<< ((nI 16) &&& 31)))) (nI 3).toNatClampNeg (((gx 3) ||| ((gy 3) <<< ((nI 8) &&& 31))) ||| ((gw 3) <<< ((nI 16) &&& 31))))), ((r 93), aI E 2000 (fun _ => 0)), ((r 95), aJ E 2000 (fun _ => 0)), ((r 96), aI E 2000 (fun _ => 0)), ((r 97), aI E 32 (fun _ => 0)), ((r 30), aI E 32 (fun _ => 0)), (h0, ob 12 (mfs (updG (updG (updG (updG (updG g 100 (.long 0)) 101 (.int (-1))) 90 (.int (nI 0))) 99 (.int (-1))) 98 (.int (nI 0))))), ((r 38), aI E 64 gx), ((r 39), aI E 64 gy), ((r 40), aI E 64 gw), ((r 41), aI E 64 gt), ((r 104), aI E 256 s2)] H := hP
  have hD : va_D A [((r 47), aI E 64 bx), ((r 48), aI E 64 by_), ((r 49), aI E 64 bw), ((r 92), aI E 32000 (upd (upd (upd (upd (fun _ => 0) 0 (((gx 0) ||| ((gy 0) <<< ((nI 8) &&& 31))) ||| ((gw 0) <<< ((nI 16) &&& 31)))) 1 (((gx 1) ||| ((gy 1) <<< ((nI 8) &&& 31))) ||| ((gw 1) <<< ((nI 16) &&& 31)))) 2 (((gx 2) ||| ((gy 2) <<< ((nI 8) &&& 31))) ||| ((gw 2) <<< ((nI 16) &&& 31)))) (nI 3).toNatClampNeg (((gx 3) ||| ((gy 3) <<< ((nI 8) &&& 31))) ||| ((gw 3) <<< ((nI 16) &&& 31))))), ((r 93), aI E 2000 (fun _ => 0)), ((r 95), aJ E 2000 (fun _ => 0)), ((r 96), aI E 2000 (fun _ => 0)), ((r 97), aI E 32 (fun _ => 0)), ((r 30), aI E 32 (fun _ => 0)), (h0, ob 12 (mfs (updG (updG (updG (updG (updG g 100 (.long 0)) 101 (.int (-1))) 90 (.int (nI 0))) 99 (.int (-1))) 98 (.int (nI 0))))), ((r 38), aI E 64 gx), ((r 39), aI E 64 gy), ((r 40), aI E 64 gw), ((r 41), aI E 64 gt), ((r 104), aI E 256 s2)] := hD
  rw [nI_clamp (n := 3) (by decide)] at hP hD
  refine lv_iinc (v := nI 4) (lv' := [(2, .int (nI 4)), (0, .ref h0), (1, .int (nI 0))]) hx hb dX12_meets_51 hl (k := 0) rfl (by decide) (by decide) rfl (fun ls hl => ?_)
  refine lv_goto (tgt := 24) hx hb dX12_meets_54 (by decide) ?_
  refine lv_iload_n hx hb dX12_meets_24 rfl (lv_at hl 0 rfl) ?_
  refine lv_aload_n hx hb dX12_meets_25 rfl (lv_at hl 1 rfl) ?_
  refine va_get (D := E.1) (ci := 12) (v := .int (nI 8)) (C := RX12) (T := TX12) (N := 116) hx hb hts iX12 hown hK hP 9 rfl rfl 37 (by decide) (hts _ wdF_RX12_231) (fun _ h9 => h9) ((mfs_get _ 37 (by decide)).trans (congrArg some (show (updG (updG (updG (updG (updG g 100 (.long 0)) 101 (.int (-1))) 90 (.int (nI 0))) 99 (.int (-1))) 98 (.int (nI 0))) 37 = .int (nI 8) from (hI 37 (by decide) rfl)))) dX12_meets_26 ?_
  refine lv_icmp_ge (tgt := 57) hx hb dX12_meets_29 (by decide) (fun c_1061 => absurd c_1061 (by decide)) (fun c_1061 => ?_)
  refine lv_aload_n hx hb dX12_meets_32 rfl (lv_at hl 1 rfl) ?_
  refine va_get (D := E.1) (ci := 12) (v := .ref (r 92)) (C := RX12) (T := TX12) (N := 116) hx hb hts iX12 hown hK hP 9 rfl rfl 92 (by decide) (hts _ wdF_RX12_174) (fun _ h9 => h9) ((mfs_get _ 92 (by decide)).trans (congrArg some (show (updG (updG (updG (updG (updG g 100 (.long 0)) 101 (.int (-1))) 90 (.int (nI 0))) 99 (.int (-1))) 98 (.int (nI 0))) 92 = .ref (r 92) from (hR 92 rfl)))) dX12_meets_33 ?_
  refine lv_bipush (v := nI 16) hx hb dX12_meets_36 (by decide) ?_
  refine lv_aload_n hx hb dX12_meets_38 rfl (lv_at hl 1 rfl) ?_
  refine va_get (D := E.1) (ci := 12) (v := .int (nI 0)) (C := RX12) (T := TX12) (N := 116) hx hb hts iX12 hown hK hP 9 rfl rfl 90 (by decide) (hts _ wdF_RX12_623) (fun _ h9 => h9) ((mfs_get _ 90 (by decide)).trans (congrArg some (show (updG (updG (updG (updG (updG g 100 (.long 0)) 101 (.int (-1))) 90 (.int (nI 0))) 99 (.int (-1))) 98 (.int (nI 0))) 90 = .int (nI 0) from rfl))) dX12_meets_39 ?_
  refine lv_imul hx hb dX12_meets_42 ?_
  rw [show ((nI 16) * (nI 0) : Int32) = nI 0 from by decide]
  refine lv_iload_n hx hb dX12_meets_43 rfl (lv_at hl 0 rfl) ?_
  refine lv_iadd hx hb dX12_meets_44 ?_
  rw [show ((nI 0) + (nI 4) : Int32) = nI 4 from by decide]
  refine lv_aload_n hx hb dX12_meets_45 rfl (lv_at hl 1 rfl) ?_
  refine lv_iload_n hx hb dX12_meets_46 rfl (lv_at hl 0 rfl) ?_
  refine cI_go (wr := []) (cM_runV (As := [.int (nI 4)]) (rest := [.int (nI 4), .ref (r 92)]) F (z80_X12_packed l E h0 r g gx gy gw gt fx fy fw bx by_ bw v s2 hR hI hm1 hm2 hm3 hm4) yy_X12_packed yi_X12_packed wdM_RX12_626 hP hD hS hK hZ hA [0, 1, 2, 3, 4, 5, 6, 7, 8, 9, 10, 11, 12, 13, 14] rfl rfl 9 12 rfl rfl rfl hl.1 rfl (Nat.le_of_ble_eq_true rfl) dX12_meets_47 ⟨by decide, by decide⟩ ⟨by decide, by decide⟩) hP hD hS hA [0, 1, 2, 3, 4, 5, 6, 7, 8, 9, 10, 11, 12, 13, 14] [] rfl rfl rfl (by decide) (fun r_1064 u_1063 H locs hw_1062 hP hD hS => ?_)
  try dsimp only at hw_1062
  have hP : va_P E.1 vwCl [((r 47), aI E 64 bx), ((r 48), aI E 64 by_), ((r 49), aI E 64 bw), ((r 92), aI E 32000 (upd (upd (upd (upd (fun _ => 0) 0 (((gx 0) ||| ((gy 0) <<< ((nI 8) &&& 31))) ||| ((gw 0) <<< ((nI 16) &&& 31)))) 1 (((gx 1) ||| ((gy 1) <<< ((nI 8) &&& 31))) ||| ((gw 1) <<< ((nI 16) &&& 31)))) 2 (((gx 2) ||| ((gy 2) <<< ((nI 8) &&& 31))) ||| ((gw 2) <<< ((nI 16) &&& 31)))) 3 (((gx 3) ||| ((gy 3) <<< ((nI 8) &&& 31))) ||| ((gw 3) <<< ((nI 16) &&& 31))))), ((r 93), aI E 2000 (fun _ => 0)), ((r 95), aJ E 2000 (fun _ => 0)), ((r 96), aI E 2000 (fun _ => 0)), ((r 97), aI E 32 (fun _ => 0)), ((r 30), aI E 32 (fun _ => 0)), (h0, ob 12 (mfs (updG (updG (updG (updG (updG g 100 (.long 0)) 101 (.int (-1))) 90 (.int (nI 0))) 99 (.int (-1))) 98 (.int (nI 0))))), ((r 38), aI E 64 gx), ((r 39), aI E 64 gy), ((r 40), aI E 64 gw), ((r 41), aI E 64 gt), ((r 104), aI E 256 s2)] H := hP
  have hD : va_D A [((r 47), aI E 64 bx), ((r 48), aI E 64 by_), ((r 49), aI E 64 bw), ((r 92), aI E 32000 (upd (upd (upd (upd (fun _ => 0) 0 (((gx 0) ||| ((gy 0) <<< ((nI 8) &&& 31))) ||| ((gw 0) <<< ((nI 16) &&& 31)))) 1 (((gx 1) ||| ((gy 1) <<< ((nI 8) &&& 31))) ||| ((gw 1) <<< ((nI 16) &&& 31)))) 2 (((gx 2) ||| ((gy 2) <<< ((nI 8) &&& 31))) ||| ((gw 2) <<< ((nI 16) &&& 31)))) 3 (((gx 3) ||| ((gy 3) <<< ((nI 8) &&& 31))) ||| ((gw 3) <<< ((nI 16) &&& 31))))), ((r 93), aI E 2000 (fun _ => 0)), ((r 95), aJ E 2000 (fun _ => 0)), ((r 96), aI E 2000 (fun _ => 0)), ((r 97), aI E 32 (fun _ => 0)), ((r 30), aI E 32 (fun _ => 0)), (h0, ob 12 (mfs (updG (updG (updG (updG (updG g 100 (.long 0)) 101 (.int (-1))) 90 (.int (nI 0))) 99 (.int (-1))) 98 (.int (nI 0))))), ((r 38), aI E 64 gx), ((r 39), aI E 64 gy), ((r 40), aI E 64 gw), ((r 41), aI E 64 gt), ((r 104), aI E 256 s2)] := hD
  subst hw_1062
  refine va_iast hx hb hK hP hD hS 3 1 rfl rfl (vp_in_nI (by decide) (by decide)) dX12_meets_50 (fun H locs hP hD hS => ?_)
  have hP : va_P E.1 vwCl [((r 47), aI E 64 bx), ((r 48), aI E 64 by_), ((r 49), aI E 64 bw), ((r 92), aI E 32000 (upd (upd (upd (upd (upd (fun _ => 0) 0 (((gx 0) ||| ((gy 0) <<< ((nI 8) &&& 31))) ||| ((gw 0) <<< ((nI 16) &&& 31)))) 1 (((gx 1) ||| ((gy 1) <<< ((nI 8) &&& 31))) ||| ((gw 1) <<< ((nI 16) &&& 31)))) 2 (((gx 2) ||| ((gy 2) <<< ((nI 8) &&& 31))) ||| ((gw 2) <<< ((nI 16) &&& 31)))) 3 (((gx 3) ||| ((gy 3) <<< ((nI 8) &&& 31))) ||| ((gw 3) <<< ((nI 16) &&& 31)))) (nI 4).toNatClampNeg (((gx 4) ||| ((gy 4) <<< ((nI 8) &&& 31))) ||| ((gw 4) <<< ((nI 16) &&& 31))))), ((r 93), aI E 2000 (fun _ => 0)), ((r 95), aJ E 2000 (fun _ => 0)), ((r 96), aI E 2000 (fun _ => 0)), ((r 97), aI E 32 (fun _ => 0)), ((r 30), aI E 32 (fun _ => 0)), (h0, ob 12 (mfs (updG (updG (updG (updG (updG g 100 (.long 0)) 101 (.int (-1))) 90 (.int (nI 0))) 99 (.int (-1))) 98 (.int (nI 0))))), ((r 38), aI E 64 gx), ((r 39), aI E 64 gy), ((r 40), aI E 64 gw), ((r 41), aI E 64 gt), ((r 104), aI E 256 s2)] H := hP
  have hD : va_D A [((r 47), aI E 64 bx), ((r 48), aI E 64 by_), ((r 49), aI E 64 bw), ((r 92), aI E 32000 (upd (upd (upd (upd (upd (fun _ => 0) 0 (((gx 0) ||| ((gy 0) <<< ((nI 8) &&& 31))) ||| ((gw 0) <<< ((nI 16) &&& 31)))) 1 (((gx 1) ||| ((gy 1) <<< ((nI 8) &&& 31))) ||| ((gw 1) <<< ((nI 16) &&& 31)))) 2 (((gx 2) ||| ((gy 2) <<< ((nI 8) &&& 31))) ||| ((gw 2) <<< ((nI 16) &&& 31)))) 3 (((gx 3) ||| ((gy 3) <<< ((nI 8) &&& 31))) ||| ((gw 3) <<< ((nI 16) &&& 31)))) (nI 4).toNatClampNeg (((gx 4) ||| ((gy 4) <<< ((nI 8) &&& 31))) ||| ((gw 4) <<< ((nI 16) &&& 31))))), ((r 93), aI E 2000 (fun _ => 0)), ((r 95), aJ E 2000 (fun _ => 0)), ((r 96), aI E 2000 (fun _ => 0)), ((r 97), aI E 32 (fun _ => 0)), ((r 30), aI E 32 (fun _ => 0)), (h0, ob 12 (mfs (updG (updG (updG (updG (updG g 100 (.long 0)) 101 (.int (-1))) 90 (.int (nI 0))) 99 (.int (-1))) 98 (.int (nI 0))))), ((r 38), aI E 64 gx), ((r 39), aI E 64 gy), ((r 40), aI E 64 gw), ((r 41), aI E 64 gt), ((r 104), aI E 256 s2)] := hD
  rw [nI_clamp (n := 4) (by decide)] at hP hD
  refine lv_iinc (v := nI 5) (lv' := [(2, .int (nI 5)), (0, .ref h0), (1, .int (nI 0))]) hx hb dX12_meets_51 hl (k := 0) rfl (by decide) (by decide) rfl (fun ls hl => ?_)
  refine lv_goto (tgt := 24) hx hb dX12_meets_54 (by decide) ?_
  refine lv_iload_n hx hb dX12_meets_24 rfl (lv_at hl 0 rfl) ?_
  refine lv_aload_n hx hb dX12_meets_25 rfl (lv_at hl 1 rfl) ?_
  refine va_get (D := E.1) (ci := 12) (v := .int (nI 8)) (C := RX12) (T := TX12) (N := 116) hx hb hts iX12 hown hK hP 9 rfl rfl 37 (by decide) (hts _ wdF_RX12_231) (fun _ h9 => h9) ((mfs_get _ 37 (by decide)).trans (congrArg some (show (updG (updG (updG (updG (updG g 100 (.long 0)) 101 (.int (-1))) 90 (.int (nI 0))) 99 (.int (-1))) 98 (.int (nI 0))) 37 = .int (nI 8) from (hI 37 (by decide) rfl)))) dX12_meets_26 ?_
  refine lv_icmp_ge (tgt := 57) hx hb dX12_meets_29 (by decide) (fun c_1065 => absurd c_1065 (by decide)) (fun c_1065 => ?_)
  refine lv_aload_n hx hb dX12_meets_32 rfl (lv_at hl 1 rfl) ?_
  refine va_get (D := E.1) (ci := 12) (v := .ref (r 92)) (C := RX12) (T := TX12) (N := 116) hx hb hts iX12 hown hK hP 9 rfl rfl 92 (by decide) (hts _ wdF_RX12_174) (fun _ h9 => h9) ((mfs_get _ 92 (by decide)).trans (congrArg some (show (updG (updG (updG (updG (updG g 100 (.long 0)) 101 (.int (-1))) 90 (.int (nI 0))) 99 (.int (-1))) 98 (.int (nI 0))) 92 = .ref (r 92) from (hR 92 rfl)))) dX12_meets_33 ?_
  refine lv_bipush (v := nI 16) hx hb dX12_meets_36 (by decide) ?_
  refine lv_aload_n hx hb dX12_meets_38 rfl (lv_at hl 1 rfl) ?_
  refine va_get (D := E.1) (ci := 12) (v := .int (nI 0)) (C := RX12) (T := TX12) (N := 116) hx hb hts iX12 hown hK hP 9 rfl rfl 90 (by decide) (hts _ wdF_RX12_623) (fun _ h9 => h9) ((mfs_get _ 90 (by decide)).trans (congrArg some (show (updG (updG (updG (updG (updG g 100 (.long 0)) 101 (.int (-1))) 90 (.int (nI 0))) 99 (.int (-1))) 98 (.int (nI 0))) 90 = .int (nI 0) from rfl))) dX12_meets_39 ?_
  refine lv_imul hx hb dX12_meets_42 ?_
  rw [show ((nI 16) * (nI 0) : Int32) = nI 0 from by decide]
  refine lv_iload_n hx hb dX12_meets_43 rfl (lv_at hl 0 rfl) ?_
  refine lv_iadd hx hb dX12_meets_44 ?_
  rw [show ((nI 0) + (nI 5) : Int32) = nI 5 from by decide]
  refine lv_aload_n hx hb dX12_meets_45 rfl (lv_at hl 1 rfl) ?_
  refine lv_iload_n hx hb dX12_meets_46 rfl (lv_at hl 0 rfl) ?_
  refine cI_go (wr := []) (cM_runV (As := [.int (nI 5)]) (rest := [.int (nI 5), .ref (r 92)]) F (z81_X12_packed l E h0 r g gx gy gw gt fx fy fw bx by_ bw v s2 hR hI hm1 hm2 hm3 hm4) yy_X12_packed yi_X12_packed wdM_RX12_626 hP hD hS hK hZ hA [0, 1, 2, 3, 4, 5, 6, 7, 8, 9, 10, 11, 12, 13, 14] rfl rfl 9 12 rfl rfl rfl hl.1 rfl (Nat.le_of_ble_eq_true rfl) dX12_meets_47 ⟨by decide, by decide⟩ ⟨by decide, by decide⟩) hP hD hS hA [0, 1, 2, 3, 4, 5, 6, 7, 8, 9, 10, 11, 12, 13, 14] [] rfl rfl rfl (by decide) (fun r_1068 u_1067 H locs hw_1066 hP hD hS => ?_)
  try dsimp only at hw_1066
  have hP : va_P E.1 vwCl [((r 47), aI E 64 bx), ((r 48), aI E 64 by_), ((r 49), aI E 64 bw), ((r 92), aI E 32000 (upd (upd (upd (upd (upd (fun _ => 0) 0 (((gx 0) ||| ((gy 0) <<< ((nI 8) &&& 31))) ||| ((gw 0) <<< ((nI 16) &&& 31)))) 1 (((gx 1) ||| ((gy 1) <<< ((nI 8) &&& 31))) ||| ((gw 1) <<< ((nI 16) &&& 31)))) 2 (((gx 2) ||| ((gy 2) <<< ((nI 8) &&& 31))) ||| ((gw 2) <<< ((nI 16) &&& 31)))) 3 (((gx 3) ||| ((gy 3) <<< ((nI 8) &&& 31))) ||| ((gw 3) <<< ((nI 16) &&& 31)))) 4 (((gx 4) ||| ((gy 4) <<< ((nI 8) &&& 31))) ||| ((gw 4) <<< ((nI 16) &&& 31))))), ((r 93), aI E 2000 (fun _ => 0)), ((r 95), aJ E 2000 (fun _ => 0)), ((r 96), aI E 2000 (fun _ => 0)), ((r 97), aI E 32 (fun _ => 0)), ((r 30), aI E 32 (fun _ => 0)), (h0, ob 12 (mfs (updG (updG (updG (updG (updG g 100 (.long 0)) 101 (.int (-1))) 90 (.int (nI 0))) 99 (.int (-1))) 98 (.int (nI 0))))), ((r 38), aI E 64 gx), ((r 39), aI E 64 gy), ((r 40), aI E 64 gw), ((r 41), aI E 64 gt), ((r 104), aI E 256 s2)] H := hP
  have hD : va_D A [((r 47), aI E 64 bx), ((r 48), aI E 64 by_), ((r 49), aI E 64 bw), ((r 92), aI E 32000 (upd (upd (upd (upd (upd (fun _ => 0) 0 (((gx 0) ||| ((gy 0) <<< ((nI 8) &&& 31))) ||| ((gw 0) <<< ((nI 16) &&& 31)))) 1 (((gx 1) ||| ((gy 1) <<< ((nI 8) &&& 31))) ||| ((gw 1) <<< ((nI 16) &&& 31)))) 2 (((gx 2) ||| ((gy 2) <<< ((nI 8) &&& 31))) ||| ((gw 2) <<< ((nI 16) &&& 31)))) 3 (((gx 3) ||| ((gy 3) <<< ((nI 8) &&& 31))) ||| ((gw 3) <<< ((nI 16) &&& 31)))) 4 (((gx 4) ||| ((gy 4) <<< ((nI 8) &&& 31))) ||| ((gw 4) <<< ((nI 16) &&& 31))))), ((r 93), aI E 2000 (fun _ => 0)), ((r 95), aJ E 2000 (fun _ => 0)), ((r 96), aI E 2000 (fun _ => 0)), ((r 97), aI E 32 (fun _ => 0)), ((r 30), aI E 32 (fun _ => 0)), (h0, ob 12 (mfs (updG (updG (updG (updG (updG g 100 (.long 0)) 101 (.int (-1))) 90 (.int (nI 0))) 99 (.int (-1))) 98 (.int (nI 0))))), ((r 38), aI E 64 gx), ((r 39), aI E 64 gy), ((r 40), aI E 64 gw), ((r 41), aI E 64 gt), ((r 104), aI E 256 s2)] := hD
  subst hw_1066
  refine va_iast hx hb hK hP hD hS 3 1 rfl rfl (vp_in_nI (by decide) (by decide)) dX12_meets_50 (fun H locs hP hD hS => ?_)
  have hP : va_P E.1 vwCl [((r 47), aI E 64 bx), ((r 48), aI E 64 by_), ((r 49), aI E 64 bw), ((r 92), aI E 32000 (upd (upd (upd (upd (upd (upd (fun _ => 0) 0 (((gx 0) ||| ((gy 0) <<< ((nI 8) &&& 31))) ||| ((gw 0) <<< ((nI 16) &&& 31)))) 1 (((gx 1) ||| ((gy 1) <<< ((nI 8) &&& 31))) ||| ((gw 1) <<< ((nI 16) &&& 31)))) 2 (((gx 2) ||| ((gy 2) <<< ((nI 8) &&& 31))) ||| ((gw 2) <<< ((nI 16) &&& 31)))) 3 (((gx 3) ||| ((gy 3) <<< ((nI 8) &&& 31))) ||| ((gw 3) <<< ((nI 16) &&& 31)))) 4 (((gx 4) ||| ((gy 4) <<< ((nI 8) &&& 31))) ||| ((gw 4) <<< ((nI 16) &&& 31)))) (nI 5).toNatClampNeg (((gx 5) ||| ((gy 5) <<< ((nI 8) &&& 31))) ||| ((gw 5) <<< ((nI 16) &&& 31))))), ((r 93), aI E 2000 (fun _ => 0)), ((r 95), aJ E 2000 (fun _ => 0)), ((r 96), aI E 2000 (fun _ => 0)), ((r 97), aI E 32 (fun _ => 0)), ((r 30), aI E 32 (fun _ => 0)), (h0, ob 12 (mfs (updG (updG (updG (updG (updG g 100 (.long 0)) 101 (.int (-1))) 90 (.int (nI 0))) 99 (.int (-1))) 98 (.int (nI 0))))), ((r 38), aI E 64 gx), ((r 39), aI E 64 gy), ((r 40), aI E 64 gw), ((r 41), aI E 64 gt), ((r 104), aI E 256 s2)] H := hP
  have hD : va_D A [((r 47), aI E 64 bx), ((r 48), aI E 64 by_), ((r 49), aI E 64 bw), ((r 92), aI E 32000 (upd (upd (upd (upd (upd (upd (fun _ => 0) 0 (((gx 0) ||| ((gy 0) <<< ((nI 8) &&& 31))) ||| ((gw 0) <<< ((nI 16) &&& 31)))) 1 (((gx 1) ||| ((gy 1) <<< ((nI 8) &&& 31))) ||| ((gw 1) <<< ((nI 16) &&& 31)))) 2 (((gx 2) ||| ((gy 2) <<< ((nI 8) &&& 31))) ||| ((gw 2) <<< ((nI 16) &&& 31)))) 3 (((gx 3) ||| ((gy 3) <<< ((nI 8) &&& 31))) ||| ((gw 3) <<< ((nI 16) &&& 31)))) 4 (((gx 4) ||| ((gy 4) <<< ((nI 8) &&& 31))) ||| ((gw 4) <<< ((nI 16) &&& 31)))) (nI 5).toNatClampNeg (((gx 5) ||| ((gy 5) <<< ((nI 8) &&& 31))) ||| ((gw 5) <<< ((nI 16) &&& 31))))), ((r 93), aI E 2000 (fun _ => 0)), ((r 95), aJ E 2000 (fun _ => 0)), ((r 96), aI E 2000 (fun _ => 0)), ((r 97), aI E 32 (fun _ => 0)), ((r 30), aI E 32 (fun _ => 0)), (h0, ob 12 (mfs (updG (updG (updG (updG (updG g 100 (.long 0)) 101 (.int (-1))) 90 (.int (nI 0))) 99 (.int (-1))) 98 (.int (nI 0))))), ((r 38), aI E 64 gx), ((r 39), aI E 64 gy), ((r 40), aI E 64 gw), ((r 41), aI E 64 gt), ((r 104), aI E 256 s2)] := hD
  rw [nI_clamp (n := 5) (by decide)] at hP hD
  refine lv_iinc (v := nI 6) (lv' := [(2, .int (nI 6)), (0, .ref h0), (1, .int (nI 0))]) hx hb dX12_meets_51 hl (k := 0) rfl (by decide) (by decide) rfl (fun ls hl => ?_)
  refine lv_goto (tgt := 24) hx hb dX12_meets_54 (by decide) ?_
  refine lv_iload_n hx hb dX12_meets_24 rfl (lv_at hl 0 rfl) ?_
  refine lv_aload_n hx hb dX12_meets_25 rfl (lv_at hl 1 rfl) ?_
  refine va_get (D := E.1) (ci := 12) (v := .int (nI 8)) (C := RX12) (T := TX12) (N := 116) hx hb hts iX12 hown hK hP 9 rfl rfl 37 (by decide) (hts _ wdF_RX12_231) (fun _ h9 => h9) ((mfs_get _ 37 (by decide)).trans (congrArg some (show (updG (updG (updG (updG (updG g 100 (.long 0)) 101 (.int (-1))) 90 (.int (nI 0))) 99 (.int (-1))) 98 (.int (nI 0))) 37 = .int (nI 8) from (hI 37 (by decide) rfl)))) dX12_meets_26 ?_
  refine lv_icmp_ge (tgt := 57) hx hb dX12_meets_29 (by decide) (fun c_1069 => absurd c_1069 (by decide)) (fun c_1069 => ?_)
  refine lv_aload_n hx hb dX12_meets_32 rfl (lv_at hl 1 rfl) ?_
  refine va_get (D := E.1) (ci := 12) (v := .ref (r 92)) (C := RX12) (T := TX12) (N := 116) hx hb hts iX12 hown hK hP 9 rfl rfl 92 (by decide) (hts _ wdF_RX12_174) (fun _ h9 => h9) ((mfs_get _ 92 (by decide)).trans (congrArg some (show (updG (updG (updG (updG (updG g 100 (.long 0)) 101 (.int (-1))) 90 (.int (nI 0))) 99 (.int (-1))) 98 (.int (nI 0))) 92 = .ref (r 92) from (hR 92 rfl)))) dX12_meets_33 ?_
  refine lv_bipush (v := nI 16) hx hb dX12_meets_36 (by decide) ?_
  refine lv_aload_n hx hb dX12_meets_38 rfl (lv_at hl 1 rfl) ?_
  refine va_get (D := E.1) (ci := 12) (v := .int (nI 0)) (C := RX12) (T := TX12) (N := 116) hx hb hts iX12 hown hK hP 9 rfl rfl 90 (by decide) (hts _ wdF_RX12_623) (fun _ h9 => h9) ((mfs_get _ 90 (by decide)).trans (congrArg some (show (updG (updG (updG (updG (updG g 100 (.long 0)) 101 (.int (-1))) 90 (.int (nI 0))) 99 (.int (-1))) 98 (.int (nI 0))) 90 = .int (nI 0) from rfl))) dX12_meets_39 ?_
  refine lv_imul hx hb dX12_meets_42 ?_
  rw [show ((nI 16) * (nI 0) : Int32) = nI 0 from by decide]
  refine lv_iload_n hx hb dX12_meets_43 rfl (lv_at hl 0 rfl) ?_
  refine lv_iadd hx hb dX12_meets_44 ?_
  rw [show ((nI 0) + (nI 6) : Int32) = nI 6 from by decide]
  refine lv_aload_n hx hb dX12_meets_45 rfl (lv_at hl 1 rfl) ?_
  refine lv_iload_n hx hb dX12_meets_46 rfl (lv_at hl 0 rfl) ?_
  refine cI_go (wr := []) (cM_runV (As := [.int (nI 6)]) (rest := [.int (nI 6), .ref (r 92)]) F (z82_X12_packed l E h0 r g gx gy gw gt fx fy fw bx by_ bw v s2 hR hI hm1 hm2 hm3 hm4) yy_X12_packed yi_X12_packed wdM_RX12_626 hP hD hS hK hZ hA [0, 1, 2, 3, 4, 5, 6, 7, 8, 9, 10, 11, 12, 13, 14] rfl rfl 9 12 rfl rfl rfl hl.1 rfl (Nat.le_of_ble_eq_true rfl) dX12_meets_47 ⟨by decide, by decide⟩ ⟨by decide, by decide⟩) hP hD hS hA [0, 1, 2, 3, 4, 5, 6, 7, 8, 9, 10, 11, 12, 13, 14] [] rfl rfl rfl (by decide) (fun r_1072 u_1071 H locs hw_1070 hP hD hS => ?_)
  try dsimp only at hw_1070
  have hP : va_P E.1 vwCl [((r 47), aI E 64 bx), ((r 48), aI E 64 by_), ((r 49), aI E 64 bw), ((r 92), aI E 32000 (upd (upd (upd (upd (upd (upd (fun _ => 0) 0 (((gx 0) ||| ((gy 0) <<< ((nI 8) &&& 31))) ||| ((gw 0) <<< ((nI 16) &&& 31)))) 1 (((gx 1) ||| ((gy 1) <<< ((nI 8) &&& 31))) ||| ((gw 1) <<< ((nI 16) &&& 31)))) 2 (((gx 2) ||| ((gy 2) <<< ((nI 8) &&& 31))) ||| ((gw 2) <<< ((nI 16) &&& 31)))) 3 (((gx 3) ||| ((gy 3) <<< ((nI 8) &&& 31))) ||| ((gw 3) <<< ((nI 16) &&& 31)))) 4 (((gx 4) ||| ((gy 4) <<< ((nI 8) &&& 31))) ||| ((gw 4) <<< ((nI 16) &&& 31)))) 5 (((gx 5) ||| ((gy 5) <<< ((nI 8) &&& 31))) ||| ((gw 5) <<< ((nI 16) &&& 31))))), ((r 93), aI E 2000 (fun _ => 0)), ((r 95), aJ E 2000 (fun _ => 0)), ((r 96), aI E 2000 (fun _ => 0)), ((r 97), aI E 32 (fun _ => 0)), ((r 30), aI E 32 (fun _ => 0)), (h0, ob 12 (mfs (updG (updG (updG (updG (updG g 100 (.long 0)) 101 (.int (-1))) 90 (.int (nI 0))) 99 (.int (-1))) 98 (.int (nI 0))))), ((r 38), aI E 64 gx), ((r 39), aI E 64 gy), ((r 40), aI E 64 gw), ((r 41), aI E 64 gt), ((r 104), aI E 256 s2)] H := hP
  have hD : va_D A [((r 47), aI E 64 bx), ((r 48), aI E 64 by_), ((r 49), aI E 64 bw), ((r 92), aI E 32000 (upd (upd (upd (upd (upd (upd (fun _ => 0) 0 (((gx 0) ||| ((gy 0) <<< ((nI 8) &&& 31))) ||| ((gw 0) <<< ((nI 16) &&& 31)))) 1 (((gx 1) ||| ((gy 1) <<< ((nI 8) &&& 31))) ||| ((gw 1) <<< ((nI 16) &&& 31)))) 2 (((gx 2) ||| ((gy 2) <<< ((nI 8) &&& 31))) ||| ((gw 2) <<< ((nI 16) &&& 31)))) 3 (((gx 3) ||| ((gy 3) <<< ((nI 8) &&& 31))) ||| ((gw 3) <<< ((nI 16) &&& 31)))) 4 (((gx 4) ||| ((gy 4) <<< ((nI 8) &&& 31))) ||| ((gw 4) <<< ((nI 16) &&& 31)))) 5 (((gx 5) ||| ((gy 5) <<< ((nI 8) &&& 31))) ||| ((gw 5) <<< ((nI 16) &&& 31))))), ((r 93), aI E 2000 (fun _ => 0)), ((r 95), aJ E 2000 (fun _ => 0)), ((r 96), aI E 2000 (fun _ => 0)), ((r 97), aI E 32 (fun _ => 0)), ((r 30), aI E 32 (fun _ => 0)), (h0, ob 12 (mfs (updG (updG (updG (updG (updG g 100 (.long 0)) 101 (.int (-1))) 90 (.int (nI 0))) 99 (.int (-1))) 98 (.int (nI 0))))), ((r 38), aI E 64 gx), ((r 39), aI E 64 gy), ((r 40), aI E 64 gw), ((r 41), aI E 64 gt), ((r 104), aI E 256 s2)] := hD
  subst hw_1070
  refine va_iast hx hb hK hP hD hS 3 1 rfl rfl (vp_in_nI (by decide) (by decide)) dX12_meets_50 (fun H locs hP hD hS => ?_)
  have hP : va_P E.1 vwCl [((r 47), aI E 64 bx), ((r 48), aI E 64 by_), ((r 49), aI E 64 bw), ((r 92), aI E 32000 (upd (upd (upd (upd (upd (upd (upd (fun _ => 0) 0 (((gx 0) ||| ((gy 0) <<< ((nI 8) &&& 31))) ||| ((gw 0) <<< ((nI 16) &&& 31)))) 1 (((gx 1) ||| ((gy 1) <<< ((nI 8) &&& 31))) ||| ((gw 1) <<< ((nI 16) &&& 31)))) 2 (((gx 2) ||| ((gy 2) <<< ((nI 8) &&& 31))) ||| ((gw 2) <<< ((nI 16) &&& 31)))) 3 (((gx 3) ||| ((gy 3) <<< ((nI 8) &&& 31))) ||| ((gw 3) <<< ((nI 16) &&& 31)))) 4 (((gx 4) ||| ((gy 4) <<< ((nI 8) &&& 31))) ||| ((gw 4) <<< ((nI 16) &&& 31)))) 5 (((gx 5) ||| ((gy 5) <<< ((nI 8) &&& 31))) ||| ((gw 5) <<< ((nI 16) &&& 31)))) (nI 6).toNatClampNeg (((gx 6) ||| ((gy 6) <<< ((nI 8) &&& 31))) ||| ((gw 6) <<< ((nI 16) &&& 31))))), ((r 93), aI E 2000 (fun _ => 0)), ((r 95), aJ E 2000 (fun _ => 0)), ((r 96), aI E 2000 (fun _ => 0)), ((r 97), aI E 32 (fun _ => 0)), ((r 30), aI E 32 (fun _ => 0)), (h0, ob 12 (mfs (updG (updG (updG (updG (updG g 100 (.long 0)) 101 (.int (-1))) 90 (.int (nI 0))) 99 (.int (-1))) 98 (.int (nI 0))))), ((r 38), aI E 64 gx), ((r 39), aI E 64 gy), ((r 40), aI E 64 gw), ((r 41), aI E 64 gt), ((r 104), aI E 256 s2)] H := hP
  have hD : va_D A [((r 47), aI E 64 bx), ((r 48), aI E 64 by_), ((r 49), aI E 64 bw), ((r 92), aI E 32000 (upd (upd (upd (upd (upd (upd (upd (fun _ => 0) 0 (((gx 0) ||| ((gy 0) <<< ((nI 8) &&& 31))) ||| ((gw 0) <<< ((nI 16) &&& 31)))) 1 (((gx 1) ||| ((gy 1) <<< ((nI 8) &&& 31))) ||| ((gw 1) <<< ((nI 16) &&& 31)))) 2 (((gx 2) ||| ((gy 2) <<< ((nI 8) &&& 31))) ||| ((gw 2) <<< ((nI 16) &&& 31)))) 3 (((gx 3) ||| ((gy 3) <<< ((nI 8) &&& 31))) ||| ((gw 3) <<< ((nI 16) &&& 31)))) 4 (((gx 4) ||| ((gy 4) <<< ((nI 8) &&& 31))) ||| ((gw 4) <<< ((nI 16) &&& 31)))) 5 (((gx 5) ||| ((gy 5) <<< ((nI 8) &&& 31))) ||| ((gw 5) <<< ((nI 16) &&& 31)))) (nI 6).toNatClampNeg (((gx 6) ||| ((gy 6) <<< ((nI 8) &&& 31))) ||| ((gw 6) <<< ((nI 16) &&& 31))))), ((r 93), aI E 2000 (fun _ => 0)), ((r 95), aJ E 2000 (fun _ => 0)), ((r 96), aI E 2000 (fun _ => 0)), ((r 97), aI E 32 (fun _ => 0)), ((r 30), aI E 32 (fun _ => 0)), (h0, ob 12 (mfs (updG (updG (updG (updG (updG g 100 (.long 0)) 101 (.int (-1))) 90 (.int (nI 0))) 99 (.int (-1))) 98 (.int (nI 0))))), ((r 38), aI E 64 gx), ((r 39), aI E 64 gy), ((r 40), aI E 64 gw), ((r 41), aI E 64 gt), ((r 104), aI E 256 s2)] := hD
  rw [nI_clamp (n := 6) (by decide)] at hP hD
  refine lv_iinc (v := nI 7) (lv' := [(2, .int (nI 7)), (0, .ref h0), (1, .int (nI 0))]) hx hb dX12_meets_51 hl (k := 0) rfl (by decide) (by decide) rfl (fun ls hl => ?_)
  refine lv_goto (tgt := 24) hx hb dX12_meets_54 (by decide) ?_
  refine lv_iload_n hx hb dX12_meets_24 rfl (lv_at hl 0 rfl) ?_
  refine lv_aload_n hx hb dX12_meets_25 rfl (lv_at hl 1 rfl) ?_
  refine va_get (D := E.1) (ci := 12) (v := .int (nI 8)) (C := RX12) (T := TX12) (N := 116) hx hb hts iX12 hown hK hP 9 rfl rfl 37 (by decide) (hts _ wdF_RX12_231) (fun _ h9 => h9) ((mfs_get _ 37 (by decide)).trans (congrArg some (show (updG (updG (updG (updG (updG g 100 (.long 0)) 101 (.int (-1))) 90 (.int (nI 0))) 99 (.int (-1))) 98 (.int (nI 0))) 37 = .int (nI 8) from (hI 37 (by decide) rfl)))) dX12_meets_26 ?_
  refine lv_icmp_ge (tgt := 57) hx hb dX12_meets_29 (by decide) (fun c_1073 => absurd c_1073 (by decide)) (fun c_1073 => ?_)
  refine lv_aload_n hx hb dX12_meets_32 rfl (lv_at hl 1 rfl) ?_
  refine va_get (D := E.1) (ci := 12) (v := .ref (r 92)) (C := RX12) (T := TX12) (N := 116) hx hb hts iX12 hown hK hP 9 rfl rfl 92 (by decide) (hts _ wdF_RX12_174) (fun _ h9 => h9) ((mfs_get _ 92 (by decide)).trans (congrArg some (show (updG (updG (updG (updG (updG g 100 (.long 0)) 101 (.int (-1))) 90 (.int (nI 0))) 99 (.int (-1))) 98 (.int (nI 0))) 92 = .ref (r 92) from (hR 92 rfl)))) dX12_meets_33 ?_
  refine lv_bipush (v := nI 16) hx hb dX12_meets_36 (by decide) ?_
  refine lv_aload_n hx hb dX12_meets_38 rfl (lv_at hl 1 rfl) ?_
  refine va_get (D := E.1) (ci := 12) (v := .int (nI 0)) (C := RX12) (T := TX12) (N := 116) hx hb hts iX12 hown hK hP 9 rfl rfl 90 (by decide) (hts _ wdF_RX12_623) (fun _ h9 => h9) ((mfs_get _ 90 (by decide)).trans (congrArg some (show (updG (updG (updG (updG (updG g 100 (.long 0)) 101 (.int (-1))) 90 (.int (nI 0))) 99 (.int (-1))) 98 (.int (nI 0))) 90 = .int (nI 0) from rfl))) dX12_meets_39 ?_
  refine lv_imul hx hb dX12_meets_42 ?_
  rw [show ((nI 16) * (nI 0) : Int32) = nI 0 from by decide]
  refine lv_iload_n hx hb dX12_meets_43 rfl (lv_at hl 0 rfl) ?_
  refine lv_iadd hx hb dX12_meets_44 ?_
  rw [show ((nI 0) + (nI 7) : Int32) = nI 7 from by decide]
  refine lv_aload_n hx hb dX12_meets_45 rfl (lv_at hl 1 rfl) ?_
  refine lv_iload_n hx hb dX12_meets_46 rfl (lv_at hl 0 rfl) ?_
  refine cI_go (wr := []) (cM_runV (As := [.int (nI 7)]) (rest := [.int (nI 7), .ref (r 92)]) F (z83_X12_packed l E h0 r g gx gy gw gt fx fy fw bx by_ bw v s2 hR hI hm1 hm2 hm3 hm4) yy_X12_packed yi_X12_packed wdM_RX12_626 hP hD hS hK hZ hA [0, 1, 2, 3, 4, 5, 6, 7, 8, 9, 10, 11, 12, 13, 14] rfl rfl 9 12 rfl rfl rfl hl.1 rfl (Nat.le_of_ble_eq_true rfl) dX12_meets_47 ⟨by decide, by decide⟩ ⟨by decide, by decide⟩) hP hD hS hA [0, 1, 2, 3, 4, 5, 6, 7, 8, 9, 10, 11, 12, 13, 14] [] rfl rfl rfl (by decide) (fun r_1076 u_1075 H locs hw_1074 hP hD hS => ?_)
  try dsimp only at hw_1074
  have hP : va_P E.1 vwCl [((r 47), aI E 64 bx), ((r 48), aI E 64 by_), ((r 49), aI E 64 bw), ((r 92), aI E 32000 (upd (upd (upd (upd (upd (upd (upd (fun _ => 0) 0 (((gx 0) ||| ((gy 0) <<< ((nI 8) &&& 31))) ||| ((gw 0) <<< ((nI 16) &&& 31)))) 1 (((gx 1) ||| ((gy 1) <<< ((nI 8) &&& 31))) ||| ((gw 1) <<< ((nI 16) &&& 31)))) 2 (((gx 2) ||| ((gy 2) <<< ((nI 8) &&& 31))) ||| ((gw 2) <<< ((nI 16) &&& 31)))) 3 (((gx 3) ||| ((gy 3) <<< ((nI 8) &&& 31))) ||| ((gw 3) <<< ((nI 16) &&& 31)))) 4 (((gx 4) ||| ((gy 4) <<< ((nI 8) &&& 31))) ||| ((gw 4) <<< ((nI 16) &&& 31)))) 5 (((gx 5) ||| ((gy 5) <<< ((nI 8) &&& 31))) ||| ((gw 5) <<< ((nI 16) &&& 31)))) 6 (((gx 6) ||| ((gy 6) <<< ((nI 8) &&& 31))) ||| ((gw 6) <<< ((nI 16) &&& 31))))), ((r 93), aI E 2000 (fun _ => 0)), ((r 95), aJ E 2000 (fun _ => 0)), ((r 96), aI E 2000 (fun _ => 0)), ((r 97), aI E 32 (fun _ => 0)), ((r 30), aI E 32 (fun _ => 0)), (h0, ob 12 (mfs (updG (updG (updG (updG (updG g 100 (.long 0)) 101 (.int (-1))) 90 (.int (nI 0))) 99 (.int (-1))) 98 (.int (nI 0))))), ((r 38), aI E 64 gx), ((r 39), aI E 64 gy), ((r 40), aI E 64 gw), ((r 41), aI E 64 gt), ((r 104), aI E 256 s2)] H := hP
  have hD : va_D A [((r 47), aI E 64 bx), ((r 48), aI E 64 by_), ((r 49), aI E 64 bw), ((r 92), aI E 32000 (upd (upd (upd (upd (upd (upd (upd (fun _ => 0) 0 (((gx 0) ||| ((gy 0) <<< ((nI 8) &&& 31))) ||| ((gw 0) <<< ((nI 16) &&& 31)))) 1 (((gx 1) ||| ((gy 1) <<< ((nI 8) &&& 31))) ||| ((gw 1) <<< ((nI 16) &&& 31)))) 2 (((gx 2) ||| ((gy 2) <<< ((nI 8) &&& 31))) ||| ((gw 2) <<< ((nI 16) &&& 31)))) 3 (((gx 3) ||| ((gy 3) <<< ((nI 8) &&& 31))) ||| ((gw 3) <<< ((nI 16) &&& 31)))) 4 (((gx 4) ||| ((gy 4) <<< ((nI 8) &&& 31))) ||| ((gw 4) <<< ((nI 16) &&& 31)))) 5 (((gx 5) ||| ((gy 5) <<< ((nI 8) &&& 31))) ||| ((gw 5) <<< ((nI 16) &&& 31)))) 6 (((gx 6) ||| ((gy 6) <<< ((nI 8) &&& 31))) ||| ((gw 6) <<< ((nI 16) &&& 31))))), ((r 93), aI E 2000 (fun _ => 0)), ((r 95), aJ E 2000 (fun _ => 0)), ((r 96), aI E 2000 (fun _ => 0)), ((r 97), aI E 32 (fun _ => 0)), ((r 30), aI E 32 (fun _ => 0)), (h0, ob 12 (mfs (updG (updG (updG (updG (updG g 100 (.long 0)) 101 (.int (-1))) 90 (.int (nI 0))) 99 (.int (-1))) 98 (.int (nI 0))))), ((r 38), aI E 64 gx), ((r 39), aI E 64 gy), ((r 40), aI E 64 gw), ((r 41), aI E 64 gt), ((r 104), aI E 256 s2)] := hD
  subst hw_1074
  refine va_iast hx hb hK hP hD hS 3 1 rfl rfl (vp_in_nI (by decide) (by decide)) dX12_meets_50 (fun H locs hP hD hS => ?_)
  have hP : va_P E.1 vwCl [((r 47), aI E 64 bx), ((r 48), aI E 64 by_), ((r 49), aI E 64 bw), ((r 92), aI E 32000 (upd (upd (upd (upd (upd (upd (upd (upd (fun _ => 0) 0 (((gx 0) ||| ((gy 0) <<< ((nI 8) &&& 31))) ||| ((gw 0) <<< ((nI 16) &&& 31)))) 1 (((gx 1) ||| ((gy 1) <<< ((nI 8) &&& 31))) ||| ((gw 1) <<< ((nI 16) &&& 31)))) 2 (((gx 2) ||| ((gy 2) <<< ((nI 8) &&& 31))) ||| ((gw 2) <<< ((nI 16) &&& 31)))) 3 (((gx 3) ||| ((gy 3) <<< ((nI 8) &&& 31))) ||| ((gw 3) <<< ((nI 16) &&& 31)))) 4 (((gx 4) ||| ((gy 4) <<< ((nI 8) &&& 31))) ||| ((gw 4) <<< ((nI 16) &&& 31)))) 5 (((gx 5) ||| ((gy 5) <<< ((nI 8) &&& 31))) ||| ((gw 5) <<< ((nI 16) &&& 31)))) 6 (((gx 6) ||| ((gy 6) <<< ((nI 8) &&& 31))) ||| ((gw 6) <<< ((nI 16) &&& 31)))) (nI 7).toNatClampNeg (((gx 7) ||| ((gy 7) <<< ((nI 8) &&& 31))) ||| ((gw 7) <<< ((nI 16) &&& 31))))), ((r 93), aI E 2000 (fun _ => 0)), ((r 95), aJ E 2000 (fun _ => 0)), ((r 96), aI E 2000 (fun _ => 0)), ((r 97), aI E 32 (fun _ => 0)), ((r 30), aI E 32 (fun _ => 0)), (h0, ob 12 (mfs (updG (updG (updG (updG (updG g 100 (.long 0)) 101 (.int (-1))) 90 (.int (nI 0))) 99 (.int (-1))) 98 (.int (nI 0))))), ((r 38), aI E 64 gx), ((r 39), aI E 64 gy), ((r 40), aI E 64 gw), ((r 41), aI E 64 gt), ((r 104), aI E 256 s2)] H := hP
  have hD : va_D A [((r 47), aI E 64 bx), ((r 48), aI E 64 by_), ((r 49), aI E 64 bw), ((r 92), aI E 32000 (upd (upd (upd (upd (upd (upd (upd (upd (fun _ => 0) 0 (((gx 0) ||| ((gy 0) <<< ((nI 8) &&& 31))) ||| ((gw 0) <<< ((nI 16) &&& 31)))) 1 (((gx 1) ||| ((gy 1) <<< ((nI 8) &&& 31))) ||| ((gw 1) <<< ((nI 16) &&& 31)))) 2 (((gx 2) ||| ((gy 2) <<< ((nI 8) &&& 31))) ||| ((gw 2) <<< ((nI 16) &&& 31)))) 3 (((gx 3) ||| ((gy 3) <<< ((nI 8) &&& 31))) ||| ((gw 3) <<< ((nI 16) &&& 31)))) 4 (((gx 4) ||| ((gy 4) <<< ((nI 8) &&& 31))) ||| ((gw 4) <<< ((nI 16) &&& 31)))) 5 (((gx 5) ||| ((gy 5) <<< ((nI 8) &&& 31))) ||| ((gw 5) <<< ((nI 16) &&& 31)))) 6 (((gx 6) ||| ((gy 6) <<< ((nI 8) &&& 31))) ||| ((gw 6) <<< ((nI 16) &&& 31)))) (nI 7).toNatClampNeg (((gx 7) ||| ((gy 7) <<< ((nI 8) &&& 31))) ||| ((gw 7) <<< ((nI 16) &&& 31))))), ((r 93), aI E 2000 (fun _ => 0)), ((r 95), aJ E 2000 (fun _ => 0)), ((r 96), aI E 2000 (fun _ => 0)), ((r 97), aI E 32 (fun _ => 0)), ((r 30), aI E 32 (fun _ => 0)), (h0, ob 12 (mfs (updG (updG (updG (updG (updG g 100 (.long 0)) 101 (.int (-1))) 90 (.int (nI 0))) 99 (.int (-1))) 98 (.int (nI 0))))), ((r 38), aI E 64 gx), ((r 39), aI E 64 gy), ((r 40), aI E 64 gw), ((r 41), aI E 64 gt), ((r 104), aI E 256 s2)] := hD
  rw [nI_clamp (n := 7) (by decide)] at hP hD
  refine lv_iinc (v := nI 8) (lv' := [(2, .int (nI 8)), (0, .ref h0), (1, .int (nI 0))]) hx hb dX12_meets_51 hl (k := 0) rfl (by decide) (by decide) rfl (fun ls hl => ?_)
  refine lv_goto (tgt := 24) hx hb dX12_meets_54 (by decide) ?_
  refine lv_iload_n hx hb dX12_meets_24 rfl (lv_at hl 0 rfl) ?_
  refine lv_aload_n hx hb dX12_meets_25 rfl (lv_at hl 1 rfl) ?_
  refine va_get (D := E.1) (ci := 12) (v := .int (nI 8)) (C := RX12) (T := TX12) (N := 116) hx hb hts iX12 hown hK hP 9 rfl rfl 37 (by decide) (hts _ wdF_RX12_231) (fun _ h9 => h9) ((mfs_get _ 37 (by decide)).trans (congrArg some (show (updG (updG (updG (updG (updG g 100 (.long 0)) 101 (.int (-1))) 90 (.int (nI 0))) 99 (.int (-1))) 98 (.int (nI 0))) 37 = .int (nI 8) from (hI 37 (by decide) rfl)))) dX12_meets_26 ?_
  refine lv_icmp_ge (tgt := 57) hx hb dX12_meets_29 (by decide) (fun c_1077 => ?_) (fun c_1077 => absurd (by decide) c_1077)
  refine lv_aload_n hx hb dX12_meets_57 rfl (lv_at hl 1 rfl) ?_
  refine va_get (D := E.1) (ci := 12) (v := .ref (r 93)) (C := RX12) (T := TX12) (N := 116) hx hb hts iX12 hown hK hP 9 rfl rfl 93 (by decide) (hts _ wdF_RX12_177) (fun _ h9 => h9) ((mfs_get _ 93 (by decide)).trans (congrArg some (show (updG (updG (updG (updG (updG g 100 (.long 0)) 101 (.int (-1))) 90 (.int (nI 0))) 99 (.int (-1))) 98 (.int (nI 0))) 93 = .ref (r 93) from (hR 93 rfl)))) dX12_meets_58 ?_
  refine lv_aload_n hx hb dX12_meets_61 rfl (lv_at hl 1 rfl) ?_
  refine va_get (D := E.1) (ci := 12) (v := .int (nI 0)) (C := RX12) (T := TX12) (N := 116) hx hb hts iX12 hown hK hP 9 rfl rfl 90 (by decide) (hts _ wdF_RX12_623) (fun _ h9 => h9) ((mfs_get _ 90 (by decide)).trans (congrArg some (show (updG (updG (updG (updG (updG g 100 (.long 0)) 101 (.int (-1))) 90 (.int (nI 0))) 99 (.int (-1))) 98 (.int (nI 0))) 90 = .int (nI 0) from rfl))) dX12_meets_62 ?_
  refine lv_iload_n hx hb dX12_meets_65 rfl (lv_at hl 2 rfl) ?_
  refine va_iast hx hb hK hP hD hS 4 1 rfl rfl (vp_in_nI (by decide) (by decide)) dX12_meets_66 (fun H locs hP hD hS => ?_)
  have hP : va_P E.1 vwCl [((r 47), aI E 64 bx), ((r 48), aI E 64 by_), ((r 49), aI E 64 bw), ((r 92), aI E 32000 (upd (upd (upd (upd (upd (upd (upd (upd (fun _ => 0) 0 (((gx 0) ||| ((gy 0) <<< ((nI 8) &&& 31))) ||| ((gw 0) <<< ((nI 16) &&& 31)))) 1 (((gx 1) ||| ((gy 1) <<< ((nI 8) &&& 31))) ||| ((gw 1) <<< ((nI 16) &&& 31)))) 2 (((gx 2) ||| ((gy 2) <<< ((nI 8) &&& 31))) ||| ((gw 2) <<< ((nI 16) &&& 31)))) 3 (((gx 3) ||| ((gy 3) <<< ((nI 8) &&& 31))) ||| ((gw 3) <<< ((nI 16) &&& 31)))) 4 (((gx 4) ||| ((gy 4) <<< ((nI 8) &&& 31))) ||| ((gw 4) <<< ((nI 16) &&& 31)))) 5 (((gx 5) ||| ((gy 5) <<< ((nI 8) &&& 31))) ||| ((gw 5) <<< ((nI 16) &&& 31)))) 6 (((gx 6) ||| ((gy 6) <<< ((nI 8) &&& 31))) ||| ((gw 6) <<< ((nI 16) &&& 31)))) 7 (((gx 7) ||| ((gy 7) <<< ((nI 8) &&& 31))) ||| ((gw 7) <<< ((nI 16) &&& 31))))), ((r 93), aI E 2000 (upd (fun _ => 0) (nI 0).toNatClampNeg (nI 0))), ((r 95), aJ E 2000 (fun _ => 0)), ((r 96), aI E 2000 (fun _ => 0)), ((r 97), aI E 32 (fun _ => 0)), ((r 30), aI E 32 (fun _ => 0)), (h0, ob 12 (mfs (updG (updG (updG (updG (updG g 100 (.long 0)) 101 (.int (-1))) 90 (.int (nI 0))) 99 (.int (-1))) 98 (.int (nI 0))))), ((r 38), aI E 64 gx), ((r 39), aI E 64 gy), ((r 40), aI E 64 gw), ((r 41), aI E 64 gt), ((r 104), aI E 256 s2)] H := hP
  have hD : va_D A [((r 47), aI E 64 bx), ((r 48), aI E 64 by_), ((r 49), aI E 64 bw), ((r 92), aI E 32000 (upd (upd (upd (upd (upd (upd (upd (upd (fun _ => 0) 0 (((gx 0) ||| ((gy 0) <<< ((nI 8) &&& 31))) ||| ((gw 0) <<< ((nI 16) &&& 31)))) 1 (((gx 1) ||| ((gy 1) <<< ((nI 8) &&& 31))) ||| ((gw 1) <<< ((nI 16) &&& 31)))) 2 (((gx 2) ||| ((gy 2) <<< ((nI 8) &&& 31))) ||| ((gw 2) <<< ((nI 16) &&& 31)))) 3 (((gx 3) ||| ((gy 3) <<< ((nI 8) &&& 31))) ||| ((gw 3) <<< ((nI 16) &&& 31)))) 4 (((gx 4) ||| ((gy 4) <<< ((nI 8) &&& 31))) ||| ((gw 4) <<< ((nI 16) &&& 31)))) 5 (((gx 5) ||| ((gy 5) <<< ((nI 8) &&& 31))) ||| ((gw 5) <<< ((nI 16) &&& 31)))) 6 (((gx 6) ||| ((gy 6) <<< ((nI 8) &&& 31))) ||| ((gw 6) <<< ((nI 16) &&& 31)))) 7 (((gx 7) ||| ((gy 7) <<< ((nI 8) &&& 31))) ||| ((gw 7) <<< ((nI 16) &&& 31))))), ((r 93), aI E 2000 (upd (fun _ => 0) (nI 0).toNatClampNeg (nI 0))), ((r 95), aJ E 2000 (fun _ => 0)), ((r 96), aI E 2000 (fun _ => 0)), ((r 97), aI E 32 (fun _ => 0)), ((r 30), aI E 32 (fun _ => 0)), (h0, ob 12 (mfs (updG (updG (updG (updG (updG g 100 (.long 0)) 101 (.int (-1))) 90 (.int (nI 0))) 99 (.int (-1))) 98 (.int (nI 0))))), ((r 38), aI E 64 gx), ((r 39), aI E 64 gy), ((r 40), aI E 64 gw), ((r 41), aI E 64 gt), ((r 104), aI E 256 s2)] := hD
  rw [nI_clamp (n := 0) (by decide)] at hP hD
  refine lv_aload_n hx hb dX12_meets_67 rfl (lv_at hl 1 rfl) ?_
  refine cI_go (wr := [((r 92), aI E 32000 (upd (upd (upd (upd (upd (upd (upd (upd (fun _ => 0) 0 (((gx 0) ||| ((gy 0) <<< ((nI 8) &&& 31))) ||| ((gw 0) <<< ((nI 16) &&& 31)))) 1 (((gx 1) ||| ((gy 1) <<< ((nI 8) &&& 31))) ||| ((gw 1) <<< ((nI 16) &&& 31)))) 2 (((gx 2) ||| ((gy 2) <<< ((nI 8) &&& 31))) ||| ((gw 2) <<< ((nI 16) &&& 31)))) 3 (((gx 3) ||| ((gy 3) <<< ((nI 8) &&& 31))) ||| ((gw 3) <<< ((nI 16) &&& 31)))) 4 (((gx 4) ||| ((gy 4) <<< ((nI 8) &&& 31))) ||| ((gw 4) <<< ((nI 16) &&& 31)))) 5 (((gx 5) ||| ((gy 5) <<< ((nI 8) &&& 31))) ||| ((gw 5) <<< ((nI 16) &&& 31)))) 6 (((gx 6) ||| ((gy 6) <<< ((nI 8) &&& 31))) ||| ((gw 6) <<< ((nI 16) &&& 31)))) 7 (((gx 7) ||| ((gy 7) <<< ((nI 8) &&& 31))) ||| ((gw 7) <<< ((nI 16) &&& 31))))), ((r 93), aI E 2000 (upd (fun _ => 0) 0 (nI 0))), ((r 95), aJ E 2000 (fun _ => 0)), ((r 96), aI E 2000 (fun _ => 0)), ((r 97), aI E 32 (fun _ => 0)), ((r 30), aI E 32 (fun _ => 0)), ((r 41), aI E 64 gt), ((r 104), aI E 256 s2)]) (cM_runV (As := []) (rest := []) F (c_X12_isAim l E h0 r (updG (updG (updG (updG (updG g 100 (.long 0)) 101 (.int (-1))) 90 (.int (nI 0))) 99 (.int (-1))) 98 (.int (nI 0))) gx gy gw bx by_ bw 8 (mOK_u (mOK_u (mOK_u (mOK_u (mOK_u hR rfl) rfl) rfl) rfl) rfl) (hI 37 (by decide) rfl) (by decide)) yy_X12_isAim yi_X12_isAim wdM_RX12_632 hP hD hS hK hZ hA [9, 10, 11, 12, 0, 1, 2] rfl rfl 9 12 rfl rfl rfl hl.1 rfl (Nat.le_of_ble_eq_true rfl) dX12_meets_68 ⟨by decide, by decide⟩ ⟨by decide, by decide⟩) hP hD hS hA [9, 10, 11, 12, 0, 1, 2] [3, 4, 5, 6, 7, 8, 13, 14] rfl rfl rfl (by decide) (fun r_1080 u_1079 H locs hw_1078 hP hD hS => ?_)
  try dsimp only at hw_1078
  have hP : va_P E.1 vwCl [((r 92), aI E 32000 (upd (upd (upd (upd (upd (upd (upd (upd (fun _ => 0) 0 (((gx 0) ||| ((gy 0) <<< ((nI 8) &&& 31))) ||| ((gw 0) <<< ((nI 16) &&& 31)))) 1 (((gx 1) ||| ((gy 1) <<< ((nI 8) &&& 31))) ||| ((gw 1) <<< ((nI 16) &&& 31)))) 2 (((gx 2) ||| ((gy 2) <<< ((nI 8) &&& 31))) ||| ((gw 2) <<< ((nI 16) &&& 31)))) 3 (((gx 3) ||| ((gy 3) <<< ((nI 8) &&& 31))) ||| ((gw 3) <<< ((nI 16) &&& 31)))) 4 (((gx 4) ||| ((gy 4) <<< ((nI 8) &&& 31))) ||| ((gw 4) <<< ((nI 16) &&& 31)))) 5 (((gx 5) ||| ((gy 5) <<< ((nI 8) &&& 31))) ||| ((gw 5) <<< ((nI 16) &&& 31)))) 6 (((gx 6) ||| ((gy 6) <<< ((nI 8) &&& 31))) ||| ((gw 6) <<< ((nI 16) &&& 31)))) 7 (((gx 7) ||| ((gy 7) <<< ((nI 8) &&& 31))) ||| ((gw 7) <<< ((nI 16) &&& 31))))), ((r 93), aI E 2000 (upd (fun _ => 0) 0 (nI 0))), ((r 95), aJ E 2000 (fun _ => 0)), ((r 96), aI E 2000 (fun _ => 0)), ((r 97), aI E 32 (fun _ => 0)), ((r 30), aI E 32 (fun _ => 0)), ((r 41), aI E 64 gt), ((r 104), aI E 256 s2), (h0, ob 12 (mfs (updG (updG (updG (updG (updG g 100 (.long 0)) 101 (.int (-1))) 90 (.int (nI 0))) 99 (.int (-1))) 98 (.int (nI 0))))), ((r 38), aI E 64 gx), ((r 39), aI E 64 gy), ((r 40), aI E 64 gw), ((r 47), aI E 64 bx), ((r 48), aI E 64 by_), ((r 49), aI E 64 bw)] H := hP
  have hD : va_D A [((r 92), aI E 32000 (upd (upd (upd (upd (upd (upd (upd (upd (fun _ => 0) 0 (((gx 0) ||| ((gy 0) <<< ((nI 8) &&& 31))) ||| ((gw 0) <<< ((nI 16) &&& 31)))) 1 (((gx 1) ||| ((gy 1) <<< ((nI 8) &&& 31))) ||| ((gw 1) <<< ((nI 16) &&& 31)))) 2 (((gx 2) ||| ((gy 2) <<< ((nI 8) &&& 31))) ||| ((gw 2) <<< ((nI 16) &&& 31)))) 3 (((gx 3) ||| ((gy 3) <<< ((nI 8) &&& 31))) ||| ((gw 3) <<< ((nI 16) &&& 31)))) 4 (((gx 4) ||| ((gy 4) <<< ((nI 8) &&& 31))) ||| ((gw 4) <<< ((nI 16) &&& 31)))) 5 (((gx 5) ||| ((gy 5) <<< ((nI 8) &&& 31))) ||| ((gw 5) <<< ((nI 16) &&& 31)))) 6 (((gx 6) ||| ((gy 6) <<< ((nI 8) &&& 31))) ||| ((gw 6) <<< ((nI 16) &&& 31)))) 7 (((gx 7) ||| ((gy 7) <<< ((nI 8) &&& 31))) ||| ((gw 7) <<< ((nI 16) &&& 31))))), ((r 93), aI E 2000 (upd (fun _ => 0) 0 (nI 0))), ((r 95), aJ E 2000 (fun _ => 0)), ((r 96), aI E 2000 (fun _ => 0)), ((r 97), aI E 32 (fun _ => 0)), ((r 30), aI E 32 (fun _ => 0)), ((r 41), aI E 64 gt), ((r 104), aI E 256 s2), (h0, ob 12 (mfs (updG (updG (updG (updG (updG g 100 (.long 0)) 101 (.int (-1))) 90 (.int (nI 0))) 99 (.int (-1))) 98 (.int (nI 0))))), ((r 38), aI E 64 gx), ((r 39), aI E 64 gy), ((r 40), aI E 64 gw), ((r 47), aI E 64 bx), ((r 48), aI E 64 by_), ((r 49), aI E 64 bw)] := hD
  have hq : r_1080 = 1 := hw_1078.elim (fun h => h.1) (fun ⟨_, d, hd, hne⟩ => absurd ⟨(hm4 d hd).1.symm, (hm4 d hd).2.1.symm, (hm4 d hd).2.2.symm⟩ hne)
  subst hq
  refine lv_if_eq (tgt := 82) hx hb dX12_meets_71 (by decide) (fun c_1081 => absurd c_1081 (by decide)) (fun c_1081 => ?_)
  refine lv_aload_n hx hb dX12_meets_74 rfl (lv_at hl 1 rfl) ?_
  refine lv_aload_n hx hb dX12_meets_75 rfl (lv_at hl 1 rfl) ?_
  refine va_get (D := E.1) (ci := 12) (v := .int (nI 0)) (C := RX12) (T := TX12) (N := 116) hx hb hts iX12 hown hK hP 8 rfl rfl 90 (by decide) (hts _ wdF_RX12_623) (fun _ h9 => h9) ((mfs_get _ 90 (by decide)).trans (congrArg some (show ((updG (updG (updG (updG (updG g 100 (.long 0)) 101 (.int (-1))) 90 (.int (nI 0))) 99 (.int (-1))) 98 (.int (nI 0)))) 90 = .int (nI 0) from rfl))) dX12_meets_76 ?_
  refine va_put (D := E.1) (ci := 12) (v := .int (nI 0)) (ty := .int) (C := RX12) (T := TX12) (N := 116) hx hb hts iX12 tyX12 tyX12_ok nmX12 hown hK hP hD hS 8 rfl rfl 99 (by decide) (hts _ wdF_RX12_193) (fun _ h9 => h9) rfl (by decide +kernel) rfl rfl (by rw [mfs_len]; decide) dX12_meets_79 (fun H locs hP hD hS => ?_)
  have hP : va_P E.1 vwCl [((r 92), aI E 32000 (upd (upd (upd (upd (upd (upd (upd (upd (fun _ => 0) 0 (((gx 0) ||| ((gy 0) <<< ((nI 8) &&& 31))) ||| ((gw 0) <<< ((nI 16) &&& 31)))) 1 (((gx 1) ||| ((gy 1) <<< ((nI 8) &&& 31))) ||| ((gw 1) <<< ((nI 16) &&& 31)))) 2 (((gx 2) ||| ((gy 2) <<< ((nI 8) &&& 31))) ||| ((gw 2) <<< ((nI 16) &&& 31)))) 3 (((gx 3) ||| ((gy 3) <<< ((nI 8) &&& 31))) ||| ((gw 3) <<< ((nI 16) &&& 31)))) 4 (((gx 4) ||| ((gy 4) <<< ((nI 8) &&& 31))) ||| ((gw 4) <<< ((nI 16) &&& 31)))) 5 (((gx 5) ||| ((gy 5) <<< ((nI 8) &&& 31))) ||| ((gw 5) <<< ((nI 16) &&& 31)))) 6 (((gx 6) ||| ((gy 6) <<< ((nI 8) &&& 31))) ||| ((gw 6) <<< ((nI 16) &&& 31)))) 7 (((gx 7) ||| ((gy 7) <<< ((nI 8) &&& 31))) ||| ((gw 7) <<< ((nI 16) &&& 31))))), ((r 93), aI E 2000 (upd (fun _ => 0) 0 (nI 0))), ((r 95), aJ E 2000 (fun _ => 0)), ((r 96), aI E 2000 (fun _ => 0)), ((r 97), aI E 32 (fun _ => 0)), ((r 30), aI E 32 (fun _ => 0)), ((r 41), aI E 64 gt), ((r 104), aI E 256 s2), (h0, ob 12 ((mfs (updG (updG (updG (updG (updG g 100 (.long 0)) 101 (.int (-1))) 90 (.int (nI 0))) 99 (.int (-1))) 98 (.int (nI 0)))).set 99 (.int (nI 0)))), ((r 38), aI E 64 gx), ((r 39), aI E 64 gy), ((r 40), aI E 64 gw), ((r 47), aI E 64 bx), ((r 48), aI E 64 by_), ((r 49), aI E 64 bw)] H := hP
  have hD : va_D A [((r 92), aI E 32000 (upd (upd (upd (upd (upd (upd (upd (upd (fun _ => 0) 0 (((gx 0) ||| ((gy 0) <<< ((nI 8) &&& 31))) ||| ((gw 0) <<< ((nI 16) &&& 31)))) 1 (((gx 1) ||| ((gy 1) <<< ((nI 8) &&& 31))) ||| ((gw 1) <<< ((nI 16) &&& 31)))) 2 (((gx 2) ||| ((gy 2) <<< ((nI 8) &&& 31))) ||| ((gw 2) <<< ((nI 16) &&& 31)))) 3 (((gx 3) ||| ((gy 3) <<< ((nI 8) &&& 31))) ||| ((gw 3) <<< ((nI 16) &&& 31)))) 4 (((gx 4) ||| ((gy 4) <<< ((nI 8) &&& 31))) ||| ((gw 4) <<< ((nI 16) &&& 31)))) 5 (((gx 5) ||| ((gy 5) <<< ((nI 8) &&& 31))) ||| ((gw 5) <<< ((nI 16) &&& 31)))) 6 (((gx 6) ||| ((gy 6) <<< ((nI 8) &&& 31))) ||| ((gw 6) <<< ((nI 16) &&& 31)))) 7 (((gx 7) ||| ((gy 7) <<< ((nI 8) &&& 31))) ||| ((gw 7) <<< ((nI 16) &&& 31))))), ((r 93), aI E 2000 (upd (fun _ => 0) 0 (nI 0))), ((r 95), aJ E 2000 (fun _ => 0)), ((r 96), aI E 2000 (fun _ => 0)), ((r 97), aI E 32 (fun _ => 0)), ((r 30), aI E 32 (fun _ => 0)), ((r 41), aI E 64 gt), ((r 104), aI E 256 s2), (h0, ob 12 ((mfs (updG (updG (updG (updG (updG g 100 (.long 0)) 101 (.int (-1))) 90 (.int (nI 0))) 99 (.int (-1))) 98 (.int (nI 0)))).set 99 (.int (nI 0)))), ((r 38), aI E 64 gx), ((r 39), aI E 64 gy), ((r 40), aI E 64 gw), ((r 47), aI E 64 bx), ((r 48), aI E 64 by_), ((r 49), aI E 64 bw)] := hD
  rw [mfs_set _ 99 _ (by decide)] at hP hD
  refine lv_aload_n hx hb dX12_meets_82 rfl (lv_at hl 1 rfl) ?_
  refine lv_dup hx hb dX12_meets_83 rfl ?_
  refine va_get (D := E.1) (ci := 12) (v := .int (nI 0)) (C := RX12) (T := TX12) (N := 116) hx hb hts iX12 hown hK hP 8 rfl rfl 90 (by decide) (hts _ wdF_RX12_623) (fun _ h9 => h9) ((mfs_get _ 90 (by decide)).trans (congrArg some (show (updG (updG (updG (updG (updG (updG g 100 (.long 0)) 101 (.int (-1))) 90 (.int (nI 0))) 99 (.int (-1))) 98 (.int (nI 0))) 99 (.int (nI 0))) 90 = .int (nI 0) from rfl))) dX12_meets_84 ?_
  refine lv_iconst (v := nI 1) hx hb dX12_meets_87 (by decide) ?_
  refine lv_iadd hx hb dX12_meets_88 ?_
  rw [show ((nI 0) + (nI 1) : Int32) = nI 1 from by decide]
  refine va_put (D := E.1) (ci := 12) (v := .int (nI 1)) (ty := .int) (C := RX12) (T := TX12) (N := 116) hx hb hts iX12 tyX12 tyX12_ok nmX12 hown hK hP hD hS 8 rfl rfl 90 (by decide) (hts _ wdF_RX12_623) (fun _ h9 => h9) rfl (by decide +kernel) rfl rfl (by rw [mfs_len]; decide) dX12_meets_89 (fun H locs hP hD hS => ?_)
  have hP : va_P E.1 vwCl [((r 92), aI E 32000 (upd (upd (upd (upd (upd (upd (upd (upd (fun _ => 0) 0 (((gx 0) ||| ((gy 0) <<< ((nI 8) &&& 31))) ||| ((gw 0) <<< ((nI 16) &&& 31)))) 1 (((gx 1) ||| ((gy 1) <<< ((nI 8) &&& 31))) ||| ((gw 1) <<< ((nI 16) &&& 31)))) 2 (((gx 2) ||| ((gy 2) <<< ((nI 8) &&& 31))) ||| ((gw 2) <<< ((nI 16) &&& 31)))) 3 (((gx 3) ||| ((gy 3) <<< ((nI 8) &&& 31))) ||| ((gw 3) <<< ((nI 16) &&& 31)))) 4 (((gx 4) ||| ((gy 4) <<< ((nI 8) &&& 31))) ||| ((gw 4) <<< ((nI 16) &&& 31)))) 5 (((gx 5) ||| ((gy 5) <<< ((nI 8) &&& 31))) ||| ((gw 5) <<< ((nI 16) &&& 31)))) 6 (((gx 6) ||| ((gy 6) <<< ((nI 8) &&& 31))) ||| ((gw 6) <<< ((nI 16) &&& 31)))) 7 (((gx 7) ||| ((gy 7) <<< ((nI 8) &&& 31))) ||| ((gw 7) <<< ((nI 16) &&& 31))))), ((r 93), aI E 2000 (upd (fun _ => 0) 0 (nI 0))), ((r 95), aJ E 2000 (fun _ => 0)), ((r 96), aI E 2000 (fun _ => 0)), ((r 97), aI E 32 (fun _ => 0)), ((r 30), aI E 32 (fun _ => 0)), ((r 41), aI E 64 gt), ((r 104), aI E 256 s2), (h0, ob 12 ((mfs (updG (updG (updG (updG (updG (updG g 100 (.long 0)) 101 (.int (-1))) 90 (.int (nI 0))) 99 (.int (-1))) 98 (.int (nI 0))) 99 (.int (nI 0)))).set 90 (.int (nI 1)))), ((r 38), aI E 64 gx), ((r 39), aI E 64 gy), ((r 40), aI E 64 gw), ((r 47), aI E 64 bx), ((r 48), aI E 64 by_), ((r 49), aI E 64 bw)] H := hP
  have hD : va_D A [((r 92), aI E 32000 (upd (upd (upd (upd (upd (upd (upd (upd (fun _ => 0) 0 (((gx 0) ||| ((gy 0) <<< ((nI 8) &&& 31))) ||| ((gw 0) <<< ((nI 16) &&& 31)))) 1 (((gx 1) ||| ((gy 1) <<< ((nI 8) &&& 31))) ||| ((gw 1) <<< ((nI 16) &&& 31)))) 2 (((gx 2) ||| ((gy 2) <<< ((nI 8) &&& 31))) ||| ((gw 2) <<< ((nI 16) &&& 31)))) 3 (((gx 3) ||| ((gy 3) <<< ((nI 8) &&& 31))) ||| ((gw 3) <<< ((nI 16) &&& 31)))) 4 (((gx 4) ||| ((gy 4) <<< ((nI 8) &&& 31))) ||| ((gw 4) <<< ((nI 16) &&& 31)))) 5 (((gx 5) ||| ((gy 5) <<< ((nI 8) &&& 31))) ||| ((gw 5) <<< ((nI 16) &&& 31)))) 6 (((gx 6) ||| ((gy 6) <<< ((nI 8) &&& 31))) ||| ((gw 6) <<< ((nI 16) &&& 31)))) 7 (((gx 7) ||| ((gy 7) <<< ((nI 8) &&& 31))) ||| ((gw 7) <<< ((nI 16) &&& 31))))), ((r 93), aI E 2000 (upd (fun _ => 0) 0 (nI 0))), ((r 95), aJ E 2000 (fun _ => 0)), ((r 96), aI E 2000 (fun _ => 0)), ((r 97), aI E 32 (fun _ => 0)), ((r 30), aI E 32 (fun _ => 0)), ((r 41), aI E 64 gt), ((r 104), aI E 256 s2), (h0, ob 12 ((mfs (updG (updG (updG (updG (updG (updG g 100 (.long 0)) 101 (.int (-1))) 90 (.int (nI 0))) 99 (.int (-1))) 98 (.int (nI 0))) 99 (.int (nI 0)))).set 90 (.int (nI 1)))), ((r 38), aI E 64 gx), ((r 39), aI E 64 gy), ((r 40), aI E 64 gw), ((r 47), aI E 64 bx), ((r 48), aI E 64 by_), ((r 49), aI E 64 bw)] := hD
  rw [mfs_set _ 90 _ (by decide)] at hP hD
  refine lv_aload_n hx hb dX12_meets_92 rfl (lv_at hl 1 rfl) ?_
  refine lv_dup hx hb dX12_meets_93 rfl ?_
  refine va_get (D := E.1) (ci := 12) (v := .int (nI 0)) (C := RX12) (T := TX12) (N := 116) hx hb hts iX12 hown hK hP 8 rfl rfl 89 (by decide) (hts _ wdF_RX12_629) (fun _ h9 => h9) ((mfs_get _ 89 (by decide)).trans (congrArg some (show (updG (updG (updG (updG (updG (updG (updG g 100 (.long 0)) 101 (.int (-1))) 90 (.int (nI 0))) 99 (.int (-1))) 98 (.int (nI 0))) 99 (.int (nI 0))) 90 (.int (nI 1))) 89 = .int (nI 0) from (hI 89 (by decide) rfl)))) dX12_meets_94 ?_
  refine lv_iconst (v := nI 1) hx hb dX12_meets_97 (by decide) ?_
  refine lv_iadd hx hb dX12_meets_98 ?_
  rw [show ((nI 0) + (nI 1) : Int32) = nI 1 from by decide]
  refine va_put (D := E.1) (ci := 12) (v := .int (nI 1)) (ty := .int) (C := RX12) (T := TX12) (N := 116) hx hb hts iX12 tyX12 tyX12_ok nmX12 hown hK hP hD hS 8 rfl rfl 89 (by decide) (hts _ wdF_RX12_629) (fun _ h9 => h9) rfl (by decide +kernel) rfl rfl (by rw [mfs_len]; decide) dX12_meets_99 (fun H locs hP hD hS => ?_)
  have hP : va_P E.1 vwCl [((r 92), aI E 32000 (upd (upd (upd (upd (upd (upd (upd (upd (fun _ => 0) 0 (((gx 0) ||| ((gy 0) <<< ((nI 8) &&& 31))) ||| ((gw 0) <<< ((nI 16) &&& 31)))) 1 (((gx 1) ||| ((gy 1) <<< ((nI 8) &&& 31))) ||| ((gw 1) <<< ((nI 16) &&& 31)))) 2 (((gx 2) ||| ((gy 2) <<< ((nI 8) &&& 31))) ||| ((gw 2) <<< ((nI 16) &&& 31)))) 3 (((gx 3) ||| ((gy 3) <<< ((nI 8) &&& 31))) ||| ((gw 3) <<< ((nI 16) &&& 31)))) 4 (((gx 4) ||| ((gy 4) <<< ((nI 8) &&& 31))) ||| ((gw 4) <<< ((nI 16) &&& 31)))) 5 (((gx 5) ||| ((gy 5) <<< ((nI 8) &&& 31))) ||| ((gw 5) <<< ((nI 16) &&& 31)))) 6 (((gx 6) ||| ((gy 6) <<< ((nI 8) &&& 31))) ||| ((gw 6) <<< ((nI 16) &&& 31)))) 7 (((gx 7) ||| ((gy 7) <<< ((nI 8) &&& 31))) ||| ((gw 7) <<< ((nI 16) &&& 31))))), ((r 93), aI E 2000 (upd (fun _ => 0) 0 (nI 0))), ((r 95), aJ E 2000 (fun _ => 0)), ((r 96), aI E 2000 (fun _ => 0)), ((r 97), aI E 32 (fun _ => 0)), ((r 30), aI E 32 (fun _ => 0)), ((r 41), aI E 64 gt), ((r 104), aI E 256 s2), (h0, ob 12 ((mfs (updG (updG (updG (updG (updG (updG (updG g 100 (.long 0)) 101 (.int (-1))) 90 (.int (nI 0))) 99 (.int (-1))) 98 (.int (nI 0))) 99 (.int (nI 0))) 90 (.int (nI 1)))).set 89 (.int (nI 1)))), ((r 38), aI E 64 gx), ((r 39), aI E 64 gy), ((r 40), aI E 64 gw), ((r 47), aI E 64 bx), ((r 48), aI E 64 by_), ((r 49), aI E 64 bw)] H := hP
  have hD : va_D A [((r 92), aI E 32000 (upd (upd (upd (upd (upd (upd (upd (upd (fun _ => 0) 0 (((gx 0) ||| ((gy 0) <<< ((nI 8) &&& 31))) ||| ((gw 0) <<< ((nI 16) &&& 31)))) 1 (((gx 1) ||| ((gy 1) <<< ((nI 8) &&& 31))) ||| ((gw 1) <<< ((nI 16) &&& 31)))) 2 (((gx 2) ||| ((gy 2) <<< ((nI 8) &&& 31))) ||| ((gw 2) <<< ((nI 16) &&& 31)))) 3 (((gx 3) ||| ((gy 3) <<< ((nI 8) &&& 31))) ||| ((gw 3) <<< ((nI 16) &&& 31)))) 4 (((gx 4) ||| ((gy 4) <<< ((nI 8) &&& 31))) ||| ((gw 4) <<< ((nI 16) &&& 31)))) 5 (((gx 5) ||| ((gy 5) <<< ((nI 8) &&& 31))) ||| ((gw 5) <<< ((nI 16) &&& 31)))) 6 (((gx 6) ||| ((gy 6) <<< ((nI 8) &&& 31))) ||| ((gw 6) <<< ((nI 16) &&& 31)))) 7 (((gx 7) ||| ((gy 7) <<< ((nI 8) &&& 31))) ||| ((gw 7) <<< ((nI 16) &&& 31))))), ((r 93), aI E 2000 (upd (fun _ => 0) 0 (nI 0))), ((r 95), aJ E 2000 (fun _ => 0)), ((r 96), aI E 2000 (fun _ => 0)), ((r 97), aI E 32 (fun _ => 0)), ((r 30), aI E 32 (fun _ => 0)), ((r 41), aI E 64 gt), ((r 104), aI E 256 s2), (h0, ob 12 ((mfs (updG (updG (updG (updG (updG (updG (updG g 100 (.long 0)) 101 (.int (-1))) 90 (.int (nI 0))) 99 (.int (-1))) 98 (.int (nI 0))) 99 (.int (nI 0))) 90 (.int (nI 1)))).set 89 (.int (nI 1)))), ((r 38), aI E 64 gx), ((r 39), aI E 64 gy), ((r 40), aI E 64 gw), ((r 47), aI E 64 bx), ((r 48), aI E 64 by_), ((r 49), aI E 64 bw)] := hD
  rw [mfs_set _ 89 _ (by decide)] at hP hD
  refine lv_iconst (v := nI 1) hx hb dX12_meets_102 (by decide) ?_
  exact cB_ret F hP hD hS hK (by decide) () rfl [0, 1, 2, 3, 4, 5, 6, 7, 8, 9, 10, 11, 12, 13, 14] rfl rfl dX12_meets_103 (by decide) (by decide)
theorem yy_X12_meets : cY yX12_meets cX12_meets 3 (some .boolean) 1 := ⟨wdK_X12_meets, wdZ_RX12, by decide +kernel⟩
theorem yi_X12_meets : cYi yX12_meets := ⟨wdN_X12_meets, wdS_X12_meets⟩
theorem dX12_searches_0 : decode cX12_searches 0 = .ok (.aload_n 0, 1) := by decide +kernel
theorem dX12_searches_1 : decode cX12_searches 1 = .ok (.iconst 0, 1) := by decide +kernel
theorem dX12_searches_2 : decode cX12_searches 2 = .ok (.putfield 623, 3) := by decide +kernel
theorem dX12_searches_5 : decode cX12_searches 5 = .ok (.aload_n 0, 1) := by decide +kernel
theorem dX12_searches_6 : decode cX12_searches 6 = .ok (.iconst (-1), 1) := by decide +kernel
theorem dX12_searches_7 : decode cX12_searches 7 = .ok (.putfield 193, 3) := by decide +kernel
theorem dX12_searches_10 : decode cX12_searches 10 = .ok (.aload_n 0, 1) := by decide +kernel
theorem dX12_searches_11 : decode cX12_searches 11 = .ok (.aload_n 0, 1) := by decide +kernel
theorem dX12_searches_12 : decode cX12_searches 12 = .ok (.getfield 392, 3) := by decide +kernel
theorem dX12_searches_15 : decode cX12_searches 15 = .ok (.putfield 635, 3) := by decide +kernel
theorem dX12_searches_18 : decode cX12_searches 18 = .ok (.aload_n 0, 1) := by decide +kernel
theorem dX12_searches_19 : decode cX12_searches 19 = .ok (.iconst 0, 1) := by decide +kernel
theorem dX12_searches_20 : decode cX12_searches 20 = .ok (.invokevirtual 644, 3) := by decide +kernel
theorem dX12_searches_23 : decode cX12_searches 23 = .ok (.ifCond .ne 6, 3) := by decide +kernel
theorem dX12_searches_26 : decode cX12_searches 26 = .ok (.bipush (-2), 2) := by decide +kernel
theorem dX12_searches_28 : decode cX12_searches 28 = .ok (.ireturn, 1) := by decide +kernel
theorem dX12_searches_29 : decode cX12_searches 29 = .ok (.iconst 0, 1) := by decide +kernel
theorem dX12_searches_30 : decode cX12_searches 30 = .ok (.istore_n 2, 1) := by decide +kernel
theorem dX12_searches_31 : decode cX12_searches 31 = .ok (.aload_n 0, 1) := by decide +kernel
theorem dX12_searches_32 : decode cX12_searches 32 = .ok (.getfield 193, 3) := by decide +kernel
theorem dX12_searches_35 : decode cX12_searches 35 = .ok (.iconst (-1), 1) := by decide +kernel
theorem dX12_searches_36 : decode cX12_searches 36 = .ok (.if_icmp .ne 40, 3) := by decide +kernel
theorem dX12_searches_39 : decode cX12_searches 39 = .ok (.iload_n 2, 1) := by decide +kernel
theorem dX12_searches_40 : decode cX12_searches 40 = .ok (.iload_n 1, 1) := by decide +kernel
theorem dX12_searches_41 : decode cX12_searches 41 = .ok (.if_icmp .ge 35, 3) := by decide +kernel
theorem dX12_searches_44 : decode cX12_searches 44 = .ok (.aload_n 0, 1) := by decide +kernel
theorem dX12_searches_45 : decode cX12_searches 45 = .ok (.getfield 623, 3) := by decide +kernel
theorem dX12_searches_48 : decode cX12_searches 48 = .ok (.istore_n 3, 1) := by decide +kernel
theorem dX12_searches_49 : decode cX12_searches 49 = .ok (.aload_n 0, 1) := by decide +kernel
theorem dX12_searches_50 : decode cX12_searches 50 = .ok (.iload_n 2, 1) := by decide +kernel
theorem dX12_searches_51 : decode cX12_searches 51 = .ok (.invokevirtual 647, 3) := by decide +kernel
theorem dX12_searches_54 : decode cX12_searches 54 = .ok (.ifCond .ne 6, 3) := by decide +kernel
theorem dX12_searches_57 : decode cX12_searches 57 = .ok (.bipush (-2), 2) := by decide +kernel
theorem dX12_searches_59 : decode cX12_searches 59 = .ok (.ireturn, 1) := by decide +kernel
theorem dX12_searches_60 : decode cX12_searches 60 = .ok (.aload_n 0, 1) := by decide +kernel
theorem dX12_searches_61 : decode cX12_searches 61 = .ok (.getfield 623, 3) := by decide +kernel
theorem dX12_searches_64 : decode cX12_searches 64 = .ok (.iload_n 3, 1) := by decide +kernel
theorem dX12_searches_65 : decode cX12_searches 65 = .ok (.if_icmp .ne 5, 3) := by decide +kernel
theorem dX12_searches_68 : decode cX12_searches 68 = .ok (.iconst (-1), 1) := by decide +kernel
theorem dX12_searches_69 : decode cX12_searches 69 = .ok (.ireturn, 1) := by decide +kernel
theorem dX12_searches_70 : decode cX12_searches 70 = .ok (.iinc 2 1, 3) := by decide +kernel
theorem dX12_searches_73 : decode cX12_searches 73 = .ok (.goto (-42), 3) := by decide +kernel
theorem dX12_searches_76 : decode cX12_searches 76 = .ok (.aload_n 0, 1) := by decide +kernel
theorem dX12_searches_77 : decode cX12_searches 77 = .ok (.getfield 193, 3) := by decide +kernel
theorem dX12_searches_80 : decode cX12_searches 80 = .ok (.iconst (-1), 1) := by decide +kernel
theorem dX12_searches_81 : decode cX12_searches 81 = .ok (.if_icmp .ne 7, 3) := by decide +kernel
theorem dX12_searches_84 : decode cX12_searches 84 = .ok (.iconst (-1), 1) := by decide +kernel
theorem dX12_searches_85 : decode cX12_searches 85 = .ok (.goto 4, 3) := by decide +kernel
theorem dX12_searches_88 : decode cX12_searches 88 = .ok (.iload_n 2, 1) := by decide +kernel
theorem dX12_searches_89 : decode cX12_searches 89 = .ok (.ireturn, 1) := by decide +kernel
abbrev rm_z74_X12_searches : Room := { frames := 2, cells := 0, slots := 0, locals := 44 }
set_option maxHeartbeats 4000000 in
set_option maxRecDepth 100000 in
theorem z74_X12_searches (l : Launch) (E : cE) (h0 : Nat) (r : Nat → Nat) (g : Nat → Value) (gx : Nat → Int32) (gy : Nat → Int32) (gw : Nat → Int32) (gt : Nat → Int32) (fx : Nat → Int32) (fy : Nat → Int32) (fw : Nat → Int32) (bx : Nat → Int32) (by_ : Nat → Int32) (bw : Nat → Int32) (v : Int32) (s2 : Nat → Int32) (hR : mOK r g) (hI : ∀ k, k < 116 → mRef k = false → g k = mI k) (hm1 : flo (stC 0) (2 * 4) gx gy gw) (hm2 : ∀ d, d < 2 * 4 → gt d = 0) (hm3 : ∀ d, d < 2 * 4 → fx d = gx d ∧ fy d = gy d ∧ fw d = gw d) (hm4 : ∀ d, d < 2 * 4 → bx d = gx d ∧ by_ d = gy d ∧ bw d = gw d) : cM l E yX12_searches cX12_searches 4 (some .int) rm_z74_X12_searches [.ref h0, .int v] [((r 47), aI E 64 bx), ((r 48), aI E 64 by_), ((r 49), aI E 64 bw), ((r 92), aI E 32000 (fun _ => 0)), ((r 93), aI E 2000 (fun _ => 0)), ((r 95), aJ E 2000 (fun _ => 0)), ((r 96), aI E 2000 (fun _ => 0)), ((r 97), aI E 32 (fun _ => 0)), ((r 30), aI E 32 (fun _ => 0)), (h0, ob 12 (mfs (updG (updG g 100 (.long 0)) 101 (.int (-1))))), ((r 38), aI E 64 gx), ((r 39), aI E 64 gy), ((r 40), aI E 64 gw), ((r 41), aI E 64 gt), ((r 104), aI E 256 s2)] (qI E (fun (r : Int32) (_u : Unit) => r = nI 0) (fun _ => [((r 92), aI E 32000 (upd (upd (upd (upd (upd (upd (upd (upd (fun _ => 0) 0 (((gx 0) ||| ((gy 0) <<< ((nI 8) &&& 31))) ||| ((gw 0) <<< ((nI 16) &&& 31)))) 1 (((gx 1) ||| ((gy 1) <<< ((nI 8) &&& 31))) ||| ((gw 1) <<< ((nI 16) &&& 31)))) 2 (((gx 2) ||| ((gy 2) <<< ((nI 8) &&& 31))) ||| ((gw 2) <<< ((nI 16) &&& 31)))) 3 (((gx 3) ||| ((gy 3) <<< ((nI 8) &&& 31))) ||| ((gw 3) <<< ((nI 16) &&& 31)))) 4 (((gx 4) ||| ((gy 4) <<< ((nI 8) &&& 31))) ||| ((gw 4) <<< ((nI 16) &&& 31)))) 5 (((gx 5) ||| ((gy 5) <<< ((nI 8) &&& 31))) ||| ((gw 5) <<< ((nI 16) &&& 31)))) 6 (((gx 6) ||| ((gy 6) <<< ((nI 8) &&& 31))) ||| ((gw 6) <<< ((nI 16) &&& 31)))) 7 (((gx 7) ||| ((gy 7) <<< ((nI 8) &&& 31))) ||| ((gw 7) <<< ((nI 16) &&& 31))))), ((r 93), aI E 2000 (upd (fun _ => 0) 0 (nI 0))), ((r 95), aJ E 2000 (fun _ => 0)), ((r 96), aI E 2000 (fun _ => 0)), ((r 97), aI E 32 (fun _ => 0)), ((r 30), aI E 32 (fun _ => 0)), ((r 41), aI E 64 gt), ((r 104), aI E 256 s2), (h0, ob 12 (mfs (updG (updG (updG (updG (updG (updG (updG (updG g 100 (.long 0)) 101 (.int (-1))) 90 (.int (nI 0))) 99 (.int (-1))) 98 (.int (nI 0))) 99 (.int (nI 0))) 90 (.int (nI 1))) 89 (.int (nI 1))))), ((r 38), aI E 64 gx), ((r 39), aI E 64 gy), ((r 40), aI E 64 gw), ((r 47), aI E 64 bx), ((r 48), aI E 64 by_), ((r 49), aI E 64 bw)])) := by
  refine cM_of (by decide) (Nat.le_of_ble_eq_true rfl) ?_
  intro p e s m below meth c ls A F hA hS hP hD hK hZ hl
  obtain ⟨hx, hb, hr, hml, hown, hts, hlk, hin⟩ := id F
  have hown : s.vm.findClass RX12 = some m.cls := hown
  have hl : lv_has ls 4 [(0, .ref h0), (1, .int v)] := hl
  refine lv_aload_n hx hb dX12_searches_0 rfl (lv_at hl 0 rfl) ?_
  refine lv_iconst (v := nI 0) hx hb dX12_searches_1 (by decide) ?_
  refine va_put (D := E.1) (ci := 12) (v := .int (nI 0)) (ty := .int) (C := RX12) (T := TX12) (N := 116) hx hb hts iX12 tyX12 tyX12_ok nmX12 hown hK hP hD hS 9 rfl rfl 90 (by decide) (hts _ wdF_RX12_623) (fun _ h9 => h9) rfl (by decide +kernel) rfl rfl (by rw [mfs_len]; decide) dX12_searches_2 (fun H locs hP hD hS => ?_)
  have hP : va_P E.1 vwCl [((r 47), aI E 64 bx), ((r 48), aI E 64 by_), ((r 49), aI E 64 bw), ((r 92), aI E 32000 (fun _ => 0)), ((r 93), aI E 2000 (fun _ => 0)), ((r 95), aJ E 2000 (fun _ => 0)), ((r 96), aI E 2000 (fun _ => 0)), ((r 97), aI E 32 (fun _ => 0)), ((r 30), aI E 32 (fun _ => 0)), (h0, ob 12 ((mfs (updG (updG g 100 (.long 0)) 101 (.int (-1)))).set 90 (.int (nI 0)))), ((r 38), aI E 64 gx), ((r 39), aI E 64 gy), ((r 40), aI E 64 gw), ((r 41), aI E 64 gt), ((r 104), aI E 256 s2)] H := hP
  have hD : va_D A [((r 47), aI E 64 bx), ((r 48), aI E 64 by_), ((r 49), aI E 64 bw), ((r 92), aI E 32000 (fun _ => 0)), ((r 93), aI E 2000 (fun _ => 0)), ((r 95), aJ E 2000 (fun _ => 0)), ((r 96), aI E 2000 (fun _ => 0)), ((r 97), aI E 32 (fun _ => 0)), ((r 30), aI E 32 (fun _ => 0)), (h0, ob 12 ((mfs (updG (updG g 100 (.long 0)) 101 (.int (-1)))).set 90 (.int (nI 0)))), ((r 38), aI E 64 gx), ((r 39), aI E 64 gy), ((r 40), aI E 64 gw), ((r 41), aI E 64 gt), ((r 104), aI E 256 s2)] := hD
  rw [mfs_set _ 90 _ (by decide)] at hP hD
  refine lv_aload_n hx hb dX12_searches_5 rfl (lv_at hl 0 rfl) ?_
  refine lv_iconst (v := (-1)) hx hb dX12_searches_6 (by decide) ?_
  refine va_put (D := E.1) (ci := 12) (v := .int (-1)) (ty := .int) (C := RX12) (T := TX12) (N := 116) hx hb hts iX12 tyX12 tyX12_ok nmX12 hown hK hP hD hS 9 rfl rfl 99 (by decide) (hts _ wdF_RX12_193) (fun _ h9 => h9) rfl (by decide +kernel) rfl rfl (by rw [mfs_len]; decide) dX12_searches_7 (fun H locs hP hD hS => ?_)
  have hP : va_P E.1 vwCl [((r 47), aI E 64 bx), ((r 48), aI E 64 by_), ((r 49), aI E 64 bw), ((r 92), aI E 32000 (fun _ => 0)), ((r 93), aI E 2000 (fun _ => 0)), ((r 95), aJ E 2000 (fun _ => 0)), ((r 96), aI E 2000 (fun _ => 0)), ((r 97), aI E 32 (fun _ => 0)), ((r 30), aI E 32 (fun _ => 0)), (h0, ob 12 ((mfs (updG (updG (updG g 100 (.long 0)) 101 (.int (-1))) 90 (.int (nI 0)))).set 99 (.int (-1)))), ((r 38), aI E 64 gx), ((r 39), aI E 64 gy), ((r 40), aI E 64 gw), ((r 41), aI E 64 gt), ((r 104), aI E 256 s2)] H := hP
  have hD : va_D A [((r 47), aI E 64 bx), ((r 48), aI E 64 by_), ((r 49), aI E 64 bw), ((r 92), aI E 32000 (fun _ => 0)), ((r 93), aI E 2000 (fun _ => 0)), ((r 95), aJ E 2000 (fun _ => 0)), ((r 96), aI E 2000 (fun _ => 0)), ((r 97), aI E 32 (fun _ => 0)), ((r 30), aI E 32 (fun _ => 0)), (h0, ob 12 ((mfs (updG (updG (updG g 100 (.long 0)) 101 (.int (-1))) 90 (.int (nI 0)))).set 99 (.int (-1)))), ((r 38), aI E 64 gx), ((r 39), aI E 64 gy), ((r 40), aI E 64 gw), ((r 41), aI E 64 gt), ((r 104), aI E 256 s2)] := hD
  rw [mfs_set _ 99 _ (by decide)] at hP hD
  refine lv_aload_n hx hb dX12_searches_10 rfl (lv_at hl 0 rfl) ?_
  refine lv_aload_n hx hb dX12_searches_11 rfl (lv_at hl 0 rfl) ?_
  refine va_get (D := E.1) (ci := 12) (v := .int (nI 0)) (C := RX12) (T := TX12) (N := 116) hx hb hts iX12 hown hK hP 9 rfl rfl 17 (by decide) (hts _ wdF_RX12_392) (fun _ h9 => h9) ((mfs_get _ 17 (by decide)).trans (congrArg some (show (updG (updG (updG (updG g 100 (.long 0)) 101 (.int (-1))) 90 (.int (nI 0))) 99 (.int (-1))) 17 = .int (nI 0) from (hI 17 (by decide) rfl)))) dX12_searches_12 ?_
  refine va_put (D := E.1) (ci := 12) (v := .int (nI 0)) (ty := .int) (C := RX12) (T := TX12) (N := 116) hx hb hts iX12 tyX12 tyX12_ok nmX12 hown hK hP hD hS 9 rfl rfl 98 (by decide) (hts _ wdF_RX12_635) (fun _ h9 => h9) rfl (by decide +kernel) rfl rfl (by rw [mfs_len]; decide) dX12_searches_15 (fun H locs hP hD hS => ?_)
  have hP : va_P E.1 vwCl [((r 47), aI E 64 bx), ((r 48), aI E 64 by_), ((r 49), aI E 64 bw), ((r 92), aI E 32000 (fun _ => 0)), ((r 93), aI E 2000 (fun _ => 0)), ((r 95), aJ E 2000 (fun _ => 0)), ((r 96), aI E 2000 (fun _ => 0)), ((r 97), aI E 32 (fun _ => 0)), ((r 30), aI E 32 (fun _ => 0)), (h0, ob 12 ((mfs (updG (updG (updG (updG g 100 (.long 0)) 101 (.int (-1))) 90 (.int (nI 0))) 99 (.int (-1)))).set 98 (.int (nI 0)))), ((r 38), aI E 64 gx), ((r 39), aI E 64 gy), ((r 40), aI E 64 gw), ((r 41), aI E 64 gt), ((r 104), aI E 256 s2)] H := hP
  have hD : va_D A [((r 47), aI E 64 bx), ((r 48), aI E 64 by_), ((r 49), aI E 64 bw), ((r 92), aI E 32000 (fun _ => 0)), ((r 93), aI E 2000 (fun _ => 0)), ((r 95), aJ E 2000 (fun _ => 0)), ((r 96), aI E 2000 (fun _ => 0)), ((r 97), aI E 32 (fun _ => 0)), ((r 30), aI E 32 (fun _ => 0)), (h0, ob 12 ((mfs (updG (updG (updG (updG g 100 (.long 0)) 101 (.int (-1))) 90 (.int (nI 0))) 99 (.int (-1)))).set 98 (.int (nI 0)))), ((r 38), aI E 64 gx), ((r 39), aI E 64 gy), ((r 40), aI E 64 gw), ((r 41), aI E 64 gt), ((r 104), aI E 256 s2)] := hD
  rw [mfs_set _ 98 _ (by decide)] at hP hD
  refine lv_aload_n hx hb dX12_searches_18 rfl (lv_at hl 0 rfl) ?_
  refine lv_iconst (v := nI 0) hx hb dX12_searches_19 (by decide) ?_
  refine cI_go (wr := []) (cM_runV (As := [.int (nI 0)]) (rest := []) F (z75_X12_meets l E h0 r g gx gy gw gt fx fy fw bx by_ bw v s2 hR hI hm1 hm2 hm3 hm4) yy_X12_meets yi_X12_meets wdM_RX12_644 hP hD hS hK hZ hA [0, 1, 2, 3, 4, 5, 6, 7, 8, 9, 10, 11, 12, 13, 14] rfl rfl 9 12 rfl rfl rfl hl.1 rfl (Nat.le_of_ble_eq_true rfl) dX12_searches_20 ⟨by decide, by decide⟩ ⟨by decide, by decide⟩) hP hD hS hA [0, 1, 2, 3, 4, 5, 6, 7, 8, 9, 10, 11, 12, 13, 14] [] rfl rfl rfl (by decide) (fun r_1084 u_1083 H locs hw_1082 hP hD hS => ?_)
  try dsimp only at hw_1082
  have hP : va_P E.1 vwCl [((r 92), aI E 32000 (upd (upd (upd (upd (upd (upd (upd (upd (fun _ => 0) 0 (((gx 0) ||| ((gy 0) <<< ((nI 8) &&& 31))) ||| ((gw 0) <<< ((nI 16) &&& 31)))) 1 (((gx 1) ||| ((gy 1) <<< ((nI 8) &&& 31))) ||| ((gw 1) <<< ((nI 16) &&& 31)))) 2 (((gx 2) ||| ((gy 2) <<< ((nI 8) &&& 31))) ||| ((gw 2) <<< ((nI 16) &&& 31)))) 3 (((gx 3) ||| ((gy 3) <<< ((nI 8) &&& 31))) ||| ((gw 3) <<< ((nI 16) &&& 31)))) 4 (((gx 4) ||| ((gy 4) <<< ((nI 8) &&& 31))) ||| ((gw 4) <<< ((nI 16) &&& 31)))) 5 (((gx 5) ||| ((gy 5) <<< ((nI 8) &&& 31))) ||| ((gw 5) <<< ((nI 16) &&& 31)))) 6 (((gx 6) ||| ((gy 6) <<< ((nI 8) &&& 31))) ||| ((gw 6) <<< ((nI 16) &&& 31)))) 7 (((gx 7) ||| ((gy 7) <<< ((nI 8) &&& 31))) ||| ((gw 7) <<< ((nI 16) &&& 31))))), ((r 93), aI E 2000 (upd (fun _ => 0) 0 (nI 0))), ((r 95), aJ E 2000 (fun _ => 0)), ((r 96), aI E 2000 (fun _ => 0)), ((r 97), aI E 32 (fun _ => 0)), ((r 30), aI E 32 (fun _ => 0)), ((r 41), aI E 64 gt), ((r 104), aI E 256 s2), (h0, ob 12 (mfs (updG (updG (updG (updG (updG (updG (updG (updG g 100 (.long 0)) 101 (.int (-1))) 90 (.int (nI 0))) 99 (.int (-1))) 98 (.int (nI 0))) 99 (.int (nI 0))) 90 (.int (nI 1))) 89 (.int (nI 1))))), ((r 38), aI E 64 gx), ((r 39), aI E 64 gy), ((r 40), aI E 64 gw), ((r 47), aI E 64 bx), ((r 48), aI E 64 by_), ((r 49), aI E 64 bw)] H := hP
  have hD : va_D A [((r 92), aI E 32000 (upd (upd (upd (upd (upd (upd (upd (upd (fun _ => 0) 0 (((gx 0) ||| ((gy 0) <<< ((nI 8) &&& 31))) ||| ((gw 0) <<< ((nI 16) &&& 31)))) 1 (((gx 1) ||| ((gy 1) <<< ((nI 8) &&& 31))) ||| ((gw 1) <<< ((nI 16) &&& 31)))) 2 (((gx 2) ||| ((gy 2) <<< ((nI 8) &&& 31))) ||| ((gw 2) <<< ((nI 16) &&& 31)))) 3 (((gx 3) ||| ((gy 3) <<< ((nI 8) &&& 31))) ||| ((gw 3) <<< ((nI 16) &&& 31)))) 4 (((gx 4) ||| ((gy 4) <<< ((nI 8) &&& 31))) ||| ((gw 4) <<< ((nI 16) &&& 31)))) 5 (((gx 5) ||| ((gy 5) <<< ((nI 8) &&& 31))) ||| ((gw 5) <<< ((nI 16) &&& 31)))) 6 (((gx 6) ||| ((gy 6) <<< ((nI 8) &&& 31))) ||| ((gw 6) <<< ((nI 16) &&& 31)))) 7 (((gx 7) ||| ((gy 7) <<< ((nI 8) &&& 31))) ||| ((gw 7) <<< ((nI 16) &&& 31))))), ((r 93), aI E 2000 (upd (fun _ => 0) 0 (nI 0))), ((r 95), aJ E 2000 (fun _ => 0)), ((r 96), aI E 2000 (fun _ => 0)), ((r 97), aI E 32 (fun _ => 0)), ((r 30), aI E 32 (fun _ => 0)), ((r 41), aI E 64 gt), ((r 104), aI E 256 s2), (h0, ob 12 (mfs (updG (updG (updG (updG (updG (updG (updG (updG g 100 (.long 0)) 101 (.int (-1))) 90 (.int (nI 0))) 99 (.int (-1))) 98 (.int (nI 0))) 99 (.int (nI 0))) 90 (.int (nI 1))) 89 (.int (nI 1))))), ((r 38), aI E 64 gx), ((r 39), aI E 64 gy), ((r 40), aI E 64 gw), ((r 47), aI E 64 bx), ((r 48), aI E 64 by_), ((r 49), aI E 64 bw)] := hD
  subst hw_1082
  refine lv_if_ne (tgt := 29) hx hb dX12_searches_23 (by decide) (fun c_1085 => ?_) (fun c_1085 => absurd c_1085 (by decide))
  refine lv_iconst (v := nI 0) hx hb dX12_searches_29 (by decide) ?_
  refine lv_istore_n (lv' := [(2, .int (nI 0)), (0, .ref h0), (1, .int v)]) hx hb dX12_searches_30 rfl hl (by decide) rfl (fun ls hl => ?_)
  refine lv_aload_n hx hb dX12_searches_31 rfl (lv_at hl 1 rfl) ?_
  refine va_get (D := E.1) (ci := 12) (v := .int (nI 0)) (C := RX12) (T := TX12) (N := 116) hx hb hts iX12 hown hK hP 8 rfl rfl 99 (by decide) (hts _ wdF_RX12_193) (fun _ h9 => h9) ((mfs_get _ 99 (by decide)).trans (congrArg some (show (updG (updG (updG (updG (updG (updG (updG (updG g 100 (.long 0)) 101 (.int (-1))) 90 (.int (nI 0))) 99 (.int (-1))) 98 (.int (nI 0))) 99 (.int (nI 0))) 90 (.int (nI 1))) 89 (.int (nI 1))) 99 = .int (nI 0) from rfl))) dX12_searches_32 ?_
  refine lv_iconst (v := (-1)) hx hb dX12_searches_35 (by decide) ?_
  refine lv_icmp_ne (tgt := 76) hx hb dX12_searches_36 (by decide) (fun c_1086 => ?_) (fun c_1086 => absurd c_1086 (by decide))
  refine lv_aload_n hx hb dX12_searches_76 rfl (lv_at hl 1 rfl) ?_
  refine va_get (D := E.1) (ci := 12) (v := .int (nI 0)) (C := RX12) (T := TX12) (N := 116) hx hb hts iX12 hown hK hP 8 rfl rfl 99 (by decide) (hts _ wdF_RX12_193) (fun _ h9 => h9) ((mfs_get _ 99 (by decide)).trans (congrArg some (show (updG (updG (updG (updG (updG (updG (updG (updG g 100 (.long 0)) 101 (.int (-1))) 90 (.int (nI 0))) 99 (.int (-1))) 98 (.int (nI 0))) 99 (.int (nI 0))) 90 (.int (nI 1))) 89 (.int (nI 1))) 99 = .int (nI 0) from rfl))) dX12_searches_77 ?_
  refine lv_iconst (v := (-1)) hx hb dX12_searches_80 (by decide) ?_
  refine lv_icmp_ne (tgt := 88) hx hb dX12_searches_81 (by decide) (fun c_1087 => ?_) (fun c_1087 => absurd c_1087 (by decide))
  refine lv_iload_n hx hb dX12_searches_88 rfl (lv_at hl 0 rfl) ?_
  exact cI_ret F hP hD hS hK () rfl [0, 1, 2, 3, 4, 5, 6, 7, 8, 9, 10, 11, 12, 13, 14] rfl rfl dX12_searches_89 (by decide) (by decide)
theorem yy_X12_searches : cY yX12_searches cX12_searches 4 (some .int) 1 := ⟨wdK_X12_searches, wdZ_RX12, by decide +kernel⟩
theorem yi_X12_searches : cYi yX12_searches := ⟨wdN_X12_searches, wdS_X12_searches⟩
theorem dX12_resolve_0 : decode cX12_resolve 0 = .ok (.iload_n 1, 1) := by decide +kernel
theorem dX12_resolve_1 : decode cX12_resolve 1 = .ok (.iconst 0, 1) := by decide +kernel
theorem dX12_resolve_2 : decode cX12_resolve 2 = .ok (.bipush 12, 2) := by decide +kernel
theorem dX12_resolve_4 : decode cX12_resolve 4 = .ok (.invokestatic 227, 3) := by decide +kernel
theorem dX12_resolve_7 : decode cX12_resolve 7 = .ok (.ifCond .eq 12, 3) := by decide +kernel
theorem dX12_resolve_10 : decode cX12_resolve 10 = .ok (.aload_n 0, 1) := by decide +kernel
theorem dX12_resolve_11 : decode cX12_resolve 11 = .ok (.getfield 231, 3) := by decide +kernel
theorem dX12_resolve_14 : decode cX12_resolve 14 = .ok (.bipush 16, 2) := by decide +kernel
theorem dX12_resolve_16 : decode cX12_resolve 16 = .ok (.if_icmp .le 6, 3) := by decide +kernel
theorem dX12_resolve_19 : decode cX12_resolve 19 = .ok (.bipush (-3), 2) := by decide +kernel
theorem dX12_resolve_21 : decode cX12_resolve 21 = .ok (.ireturn, 1) := by decide +kernel
theorem dX12_resolve_22 : decode cX12_resolve 22 = .ok (.aload_n 0, 1) := by decide +kernel
theorem dX12_resolve_23 : decode cX12_resolve 23 = .ok (.lconst 0, 1) := by decide +kernel
theorem dX12_resolve_24 : decode cX12_resolve 24 = .ok (.putfield 248, 3) := by decide +kernel
theorem dX12_resolve_27 : decode cX12_resolve 27 = .ok (.aload_n 0, 1) := by decide +kernel
theorem dX12_resolve_28 : decode cX12_resolve 28 = .ok (.iconst (-1), 1) := by decide +kernel
theorem dX12_resolve_29 : decode cX12_resolve 29 = .ok (.putfield 196, 3) := by decide +kernel
theorem dX12_resolve_32 : decode cX12_resolve 32 = .ok (.aload_n 0, 1) := by decide +kernel
theorem dX12_resolve_33 : decode cX12_resolve 33 = .ok (.getfield 252, 3) := by decide +kernel
theorem dX12_resolve_36 : decode cX12_resolve 36 = .ok (.istore_n 2, 1) := by decide +kernel
theorem dX12_resolve_37 : decode cX12_resolve 37 = .ok (.aload_n 0, 1) := by decide +kernel
theorem dX12_resolve_38 : decode cX12_resolve 38 = .ok (.getfield 255, 3) := by decide +kernel
theorem dX12_resolve_41 : decode cX12_resolve 41 = .ok (.istore_n 3, 1) := by decide +kernel
theorem dX12_resolve_42 : decode cX12_resolve 42 = .ok (.aload_n 0, 1) := by decide +kernel
theorem dX12_resolve_43 : decode cX12_resolve 43 = .ok (.invokevirtual 650, 3) := by decide +kernel
theorem dX12_resolve_46 : decode cX12_resolve 46 = .ok (.aload_n 0, 1) := by decide +kernel
theorem dX12_resolve_47 : decode cX12_resolve 47 = .ok (.aload_n 0, 1) := by decide +kernel
theorem dX12_resolve_48 : decode cX12_resolve 48 = .ok (.iload_n 1, 1) := by decide +kernel
theorem dX12_resolve_49 : decode cX12_resolve 49 = .ok (.invokevirtual 653, 3) := by decide +kernel
theorem dX12_resolve_52 : decode cX12_resolve 52 = .ok (.putfield 656, 3) := by decide +kernel
theorem dX12_resolve_55 : decode cX12_resolve 55 = .ok (.aload_n 0, 1) := by decide +kernel
theorem dX12_resolve_56 : decode cX12_resolve 56 = .ok (.invokevirtual 659, 3) := by decide +kernel
theorem dX12_resolve_59 : decode cX12_resolve 59 = .ok (.aload_n 0, 1) := by decide +kernel
theorem dX12_resolve_60 : decode cX12_resolve 60 = .ok (.iload_n 2, 1) := by decide +kernel
theorem dX12_resolve_61 : decode cX12_resolve 61 = .ok (.putfield 252, 3) := by decide +kernel
theorem dX12_resolve_64 : decode cX12_resolve 64 = .ok (.aload_n 0, 1) := by decide +kernel
theorem dX12_resolve_65 : decode cX12_resolve 65 = .ok (.iload_n 3, 1) := by decide +kernel
theorem dX12_resolve_66 : decode cX12_resolve 66 = .ok (.putfield 255, 3) := by decide +kernel
theorem dX12_resolve_69 : decode cX12_resolve 69 = .ok (.aload_n 0, 1) := by decide +kernel
theorem dX12_resolve_70 : decode cX12_resolve 70 = .ok (.getfield 656, 3) := by decide +kernel
theorem dX12_resolve_73 : decode cX12_resolve 73 = .ok (.ifCond .ge 8, 3) := by decide +kernel
theorem dX12_resolve_76 : decode cX12_resolve 76 = .ok (.aload_n 0, 1) := by decide +kernel
theorem dX12_resolve_77 : decode cX12_resolve 77 = .ok (.getfield 656, 3) := by decide +kernel
theorem dX12_resolve_80 : decode cX12_resolve 80 = .ok (.ireturn, 1) := by decide +kernel
theorem dX12_resolve_81 : decode cX12_resolve 81 = .ok (.iconst 0, 1) := by decide +kernel
theorem dX12_resolve_82 : decode cX12_resolve 82 = .ok (.istore 4, 2) := by decide +kernel
theorem dX12_resolve_84 : decode cX12_resolve 84 = .ok (.iload 4, 2) := by decide +kernel
theorem dX12_resolve_86 : decode cX12_resolve 86 = .ok (.aload_n 0, 1) := by decide +kernel
theorem dX12_resolve_87 : decode cX12_resolve 87 = .ok (.getfield 635, 3) := by decide +kernel
theorem dX12_resolve_90 : decode cX12_resolve 90 = .ok (.if_icmp .ge 27, 3) := by decide +kernel
theorem dX12_resolve_93 : decode cX12_resolve 93 = .ok (.aload_n 0, 1) := by decide +kernel
theorem dX12_resolve_94 : decode cX12_resolve 94 = .ok (.getfield 190, 3) := by decide +kernel
theorem dX12_resolve_97 : decode cX12_resolve 97 = .ok (.iload 4, 2) := by decide +kernel
theorem dX12_resolve_99 : decode cX12_resolve 99 = .ok (.aload_n 0, 1) := by decide +kernel
theorem dX12_resolve_100 : decode cX12_resolve 100 = .ok (.aload_n 0, 1) := by decide +kernel
theorem dX12_resolve_101 : decode cX12_resolve 101 = .ok (.getfield 62, 3) := by decide +kernel
theorem dX12_resolve_104 : decode cX12_resolve 104 = .ok (.iload 4, 2) := by decide +kernel
theorem dX12_resolve_106 : decode cX12_resolve 106 = .ok (.iaload, 1) := by decide +kernel
theorem dX12_resolve_107 : decode cX12_resolve 107 = .ok (.invokevirtual 662, 3) := by decide +kernel
theorem dX12_resolve_110 : decode cX12_resolve 110 = .ok (.iastore, 1) := by decide +kernel
theorem dX12_resolve_111 : decode cX12_resolve 111 = .ok (.iinc 4 1, 3) := by decide +kernel
theorem dX12_resolve_114 : decode cX12_resolve 114 = .ok (.goto (-30), 3) := by decide +kernel
theorem dX12_resolve_117 : decode cX12_resolve 117 = .ok (.iconst 0, 1) := by decide +kernel
theorem dX12_resolve_118 : decode cX12_resolve 118 = .ok (.istore 4, 2) := by decide +kernel
theorem dX12_resolve_120 : decode cX12_resolve 120 = .ok (.iload 4, 2) := by decide +kernel
theorem dX12_resolve_122 : decode cX12_resolve 122 = .ok (.aload_n 0, 1) := by decide +kernel
theorem dX12_resolve_123 : decode cX12_resolve 123 = .ok (.getfield 623, 3) := by decide +kernel
theorem dX12_resolve_126 : decode cX12_resolve 126 = .ok (.if_icmp .ge 38, 3) := by decide +kernel
theorem dX12_resolve_129 : decode cX12_resolve 129 = .ok (.aload_n 0, 1) := by decide +kernel
theorem dX12_resolve_130 : decode cX12_resolve 130 = .ok (.getfield 184, 3) := by decide +kernel
theorem dX12_resolve_133 : decode cX12_resolve 133 = .ok (.iload 4, 2) := by decide +kernel
theorem dX12_resolve_135 : decode cX12_resolve 135 = .ok (.iload 4, 2) := by decide +kernel
theorem dX12_resolve_137 : decode cX12_resolve 137 = .ok (.aload_n 0, 1) := by decide +kernel
theorem dX12_resolve_138 : decode cX12_resolve 138 = .ok (.getfield 193, 3) := by decide +kernel
theorem dX12_resolve_141 : decode cX12_resolve 141 = .ok (.if_icmp .ne 7, 3) := by decide +kernel
theorem dX12_resolve_144 : decode cX12_resolve 144 = .ok (.lconst 1, 1) := by decide +kernel
theorem dX12_resolve_145 : decode cX12_resolve 145 = .ok (.goto 4, 3) := by decide +kernel
theorem dX12_resolve_148 : decode cX12_resolve 148 = .ok (.lconst 0, 1) := by decide +kernel
theorem dX12_resolve_149 : decode cX12_resolve 149 = .ok (.lastore, 1) := by decide +kernel
theorem dX12_resolve_150 : decode cX12_resolve 150 = .ok (.aload_n 0, 1) := by decide +kernel
theorem dX12_resolve_151 : decode cX12_resolve 151 = .ok (.getfield 187, 3) := by decide +kernel
theorem dX12_resolve_154 : decode cX12_resolve 154 = .ok (.iload 4, 2) := by decide +kernel
theorem dX12_resolve_156 : decode cX12_resolve 156 = .ok (.iconst 0, 1) := by decide +kernel
theorem dX12_resolve_157 : decode cX12_resolve 157 = .ok (.iastore, 1) := by decide +kernel
theorem dX12_resolve_158 : decode cX12_resolve 158 = .ok (.iinc 4 1, 3) := by decide +kernel
theorem dX12_resolve_161 : decode cX12_resolve 161 = .ok (.goto (-41), 3) := by decide +kernel
theorem dX12_resolve_164 : decode cX12_resolve 164 = .ok (.aload_n 0, 1) := by decide +kernel
theorem dX12_resolve_165 : decode cX12_resolve 165 = .ok (.getfield 656, 3) := by decide +kernel
theorem dX12_resolve_168 : decode cX12_resolve 168 = .ok (.iconst 1, 1) := by decide +kernel
theorem dX12_resolve_169 : decode cX12_resolve 169 = .ok (.isub, 1) := by decide +kernel
theorem dX12_resolve_170 : decode cX12_resolve 170 = .ok (.istore 4, 2) := by decide +kernel
theorem dX12_resolve_172 : decode cX12_resolve 172 = .ok (.iload 4, 2) := by decide +kernel
theorem dX12_resolve_174 : decode cX12_resolve 174 = .ok (.ifCond .lt 45, 3) := by decide +kernel
theorem dX12_resolve_177 : decode cX12_resolve 177 = .ok (.iconst 0, 1) := by decide +kernel
theorem dX12_resolve_178 : decode cX12_resolve 178 = .ok (.istore 5, 2) := by decide +kernel
theorem dX12_resolve_180 : decode cX12_resolve 180 = .ok (.iload 5, 2) := by decide +kernel
theorem dX12_resolve_182 : decode cX12_resolve 182 = .ok (.aload_n 0, 1) := by decide +kernel
theorem dX12_resolve_183 : decode cX12_resolve 183 = .ok (.getfield 623, 3) := by decide +kernel
theorem dX12_resolve_186 : decode cX12_resolve 186 = .ok (.if_icmp .ge 27, 3) := by decide +kernel
theorem dX12_resolve_189 : decode cX12_resolve 189 = .ok (.aload_n 0, 1) := by decide +kernel
theorem dX12_resolve_190 : decode cX12_resolve 190 = .ok (.getfield 177, 3) := by decide +kernel
theorem dX12_resolve_193 : decode cX12_resolve 193 = .ok (.iload 5, 2) := by decide +kernel
theorem dX12_resolve_195 : decode cX12_resolve 195 = .ok (.iaload, 1) := by decide +kernel
theorem dX12_resolve_196 : decode cX12_resolve 196 = .ok (.iload 4, 2) := by decide +kernel
theorem dX12_resolve_198 : decode cX12_resolve 198 = .ok (.if_icmp .ne 9, 3) := by decide +kernel
theorem dX12_resolve_201 : decode cX12_resolve 201 = .ok (.aload_n 0, 1) := by decide +kernel
theorem dX12_resolve_202 : decode cX12_resolve 202 = .ok (.iload 5, 2) := by decide +kernel
theorem dX12_resolve_204 : decode cX12_resolve 204 = .ok (.invokevirtual 665, 3) := by decide +kernel
theorem dX12_resolve_207 : decode cX12_resolve 207 = .ok (.iinc 5 1, 3) := by decide +kernel
theorem dX12_resolve_210 : decode cX12_resolve 210 = .ok (.goto (-30), 3) := by decide +kernel
theorem dX12_resolve_213 : decode cX12_resolve 213 = .ok (.iinc 4 (-1), 3) := by decide +kernel
theorem dX12_resolve_216 : decode cX12_resolve 216 = .ok (.goto (-44), 3) := by decide +kernel
theorem dX12_resolve_219 : decode cX12_resolve 219 = .ok (.aload_n 0, 1) := by decide +kernel
theorem dX12_resolve_220 : decode cX12_resolve 220 = .ok (.aload_n 0, 1) := by decide +kernel
theorem dX12_resolve_221 : decode cX12_resolve 221 = .ok (.getfield 184, 3) := by decide +kernel
theorem dX12_resolve_224 : decode cX12_resolve 224 = .ok (.iconst 0, 1) := by decide +kernel
theorem dX12_resolve_225 : decode cX12_resolve 225 = .ok (.laload, 1) := by decide +kernel
theorem dX12_resolve_226 : decode cX12_resolve 226 = .ok (.putfield 248, 3) := by decide +kernel
theorem dX12_resolve_229 : decode cX12_resolve 229 = .ok (.aload_n 0, 1) := by decide +kernel
theorem dX12_resolve_230 : decode cX12_resolve 230 = .ok (.getfield 656, 3) := by decide +kernel
theorem dX12_resolve_233 : decode cX12_resolve 233 = .ok (.ireturn, 1) := by decide +kernel
abbrev rm_p_X12_resolve : Room := { frames := 3, cells := 0, slots := 0, locals := 67 }
set_option maxHeartbeats 4000000 in
set_option maxRecDepth 100000 in
theorem p_X12_resolve (l : Launch) (E : cE) (h0 : Nat) (r : Nat → Nat) (g : Nat → Value) (gx : Nat → Int32) (gy : Nat → Int32) (gw : Nat → Int32) (gt : Nat → Int32) (fx : Nat → Int32) (fy : Nat → Int32) (fw : Nat → Int32) (bx : Nat → Int32) (by_ : Nat → Int32) (bw : Nat → Int32) (v : Int32) (hR : mOK r g) (hI : ∀ k, k < 116 → mRef k = false → g k = mI k) (hm1 : flo (stC 0) (2 * 4) gx gy gw) (hm2 : ∀ d, d < 2 * 4 → gt d = 0) (hm3 : ∀ d, d < 2 * 4 → fx d = gx d ∧ fy d = gy d ∧ fw d = gw d) (hm4 : ∀ d, d < 2 * 4 → bx d = gx d ∧ by_ d = gy d ∧ bw d = gw d) : cM l E yX12_resolve cX12_resolve 6 (some .int) rm_p_X12_resolve [.ref h0, .int v] [(h0, ob 12 (mfs g)), ((r 38), aI E 64 gx), ((r 39), aI E 64 gy), ((r 40), aI E 64 gw), ((r 41), aI E 64 gt), ((r 47), aI E 64 bx), ((r 48), aI E 64 by_), ((r 49), aI E 64 bw), ((r 104), aI E 256 (fun _ => 0)), ((r 92), aI E 32000 (fun _ => 0)), ((r 93), aI E 2000 (fun _ => 0)), ((r 95), aJ E 2000 (fun _ => 0)), ((r 96), aI E 2000 (fun _ => 0)), ((r 97), aI E 32 (fun _ => 0)), ((r 30), aI E 32 (fun _ => 0))] (qI E (fun (r : Int32) (_u : Unit) => r = if v < 0 ∨ 12 < v then -3 else 0) (fun _ => [])) := by
  refine cM_of (by decide) (Nat.le_of_ble_eq_true rfl) ?_
  intro p e s m below meth c ls A F hA hS hP hD hK hZ hl
  obtain ⟨hx, hb, hr, hml, hown, hts, hlk, hin⟩ := id F
  have hown : s.vm.findClass RX12 = some m.cls := hown
  have hl : lv_has ls 6 [(0, .ref h0), (1, .int v)] := hl
  refine lv_iload_n hx hb dX12_resolve_0 rfl (lv_at hl 1 rfl) ?_
  refine lv_iconst (v := nI 0) hx hb dX12_resolve_1 (by decide) ?_
  refine lv_bipush (v := nI 12) hx hb dX12_resolve_2 (by decide) ?_
  refine cI_go (wr := [(h0, ob 12 (mfs g)), ((r 38), aI E 64 gx), ((r 39), aI E 64 gy), ((r 40), aI E 64 gw), ((r 41), aI E 64 gt), ((r 47), aI E 64 bx), ((r 48), aI E 64 by_), ((r 49), aI E 64 bw), ((r 104), aI E 256 (fun _ => 0)), ((r 92), aI E 32000 (fun _ => 0)), ((r 93), aI E 2000 (fun _ => 0)), ((r 95), aJ E 2000 (fun _ => 0)), ((r 96), aI E 2000 (fun _ => 0)), ((r 97), aI E 32 (fun _ => 0)), ((r 30), aI E 32 (fun _ => 0))]) (cM_runS (As := [.int v, .int (nI 0), .int (nI 12)]) (rest := []) F (c_X12_in l E v (nI 0) (nI 12)) yy_X12_in wdT_X12_in wdM_RX12_227 hP hD hS hK hZ hA [] rfl rfl rfl hl.1 rfl (Nat.le_of_ble_eq_true rfl) dX12_resolve_4 ⟨by decide, by decide⟩ ⟨by decide, by decide⟩) hP hD hS hA [] [0, 1, 2, 3, 4, 5, 6, 7, 8, 9, 10, 11, 12, 13, 14] rfl rfl rfl (by decide) (fun r_1038 u_1037 H locs hw_1036 hP hD hS => ?_)
  try dsimp only at hw_1036
  have hP : va_P E.1 vwCl [(h0, ob 12 (mfs g)), ((r 38), aI E 64 gx), ((r 39), aI E 64 gy), ((r 40), aI E 64 gw), ((r 41), aI E 64 gt), ((r 47), aI E 64 bx), ((r 48), aI E 64 by_), ((r 49), aI E 64 bw), ((r 104), aI E 256 (fun _ => 0)), ((r 92), aI E 32000 (fun _ => 0)), ((r 93), aI E 2000 (fun _ => 0)), ((r 95), aJ E 2000 (fun _ => 0)), ((r 96), aI E 2000 (fun _ => 0)), ((r 97), aI E 32 (fun _ => 0)), ((r 30), aI E 32 (fun _ => 0))] H := hP
  have hD : va_D A [(h0, ob 12 (mfs g)), ((r 38), aI E 64 gx), ((r 39), aI E 64 gy), ((r 40), aI E 64 gw), ((r 41), aI E 64 gt), ((r 47), aI E 64 bx), ((r 48), aI E 64 by_), ((r 49), aI E 64 bw), ((r 104), aI E 256 (fun _ => 0)), ((r 92), aI E 32000 (fun _ => 0)), ((r 93), aI E 2000 (fun _ => 0)), ((r 95), aJ E 2000 (fun _ => 0)), ((r 96), aI E 2000 (fun _ => 0)), ((r 97), aI E 32 (fun _ => 0)), ((r 30), aI E 32 (fun _ => 0))] := hD
  refine lv_if_eq (tgt := 19) hx hb dX12_resolve_7 (by decide) (fun c1 => ?_) (fun c1 => ?_)
  · have c2 : ¬ (nI 0 ≤ v ∧ v ≤ nI 12) := fun h => absurd (hw_1036.symm.trans c1) (by rw [if_pos h]; decide)
    refine lv_bipush (v := (-3)) hx hb dX12_resolve_19 (by decide) ?_
    exact cI_ret F hP hD hS hK () (if_pos (Decidable.byContradiction (fun h => c2 ⟨Int32.not_lt.mp (fun q => h (Or.inl q)), Int32.not_lt.mp (fun q => h (Or.inr q))⟩))).symm [] rfl rfl dX12_resolve_21 (by decide) (by decide)
  · have c2 : nI 0 ≤ v ∧ v ≤ nI 12 := Decidable.byContradiction (fun h => c1 (hw_1036.trans (if_neg h)))
    refine lv_aload_n hx hb dX12_resolve_10 rfl (lv_at hl 0 rfl) ?_
    refine va_get (D := E.1) (ci := 12) (v := .int (nI 8)) (C := RX12) (T := TX12) (N := 116) hx hb hts iX12 hown hK hP 0 rfl rfl 37 (by decide) (hts _ wdF_RX12_231) (fun _ h9 => h9) ((mfs_get _ 37 (by decide)).trans (congrArg some (show (g) 37 = .int (nI 8) from (hI 37 (by decide) rfl)))) dX12_resolve_11 ?_
    refine lv_bipush (v := nI 16) hx hb dX12_resolve_14 (by decide) ?_
    refine lv_icmp_le (tgt := 22) hx hb dX12_resolve_16 (by decide) (fun c_1039 => ?_) (fun c_1039 => absurd (by decide) c_1039)
    refine lv_aload_n hx hb dX12_resolve_22 rfl (lv_at hl 0 rfl) ?_
    refine lv_lconst (v := 0) hx hb dX12_resolve_23 (by decide) ?_
    refine va_put (D := E.1) (ci := 12) (v := .long 0) (ty := .long) (C := RX12) (T := TX12) (N := 116) hx hb hts iX12 tyX12 tyX12_ok nmX12 hown hK hP hD hS 0 rfl rfl 100 (by decide) (hts _ wdF_RX12_248) (fun _ h9 => h9) rfl (by decide +kernel) rfl rfl (by rw [mfs_len]; decide) dX12_resolve_24 (fun H locs hP hD hS => ?_)
    have hP : va_P E.1 vwCl [(h0, ob 12 ((mfs g).set 100 (.long 0))), ((r 38), aI E 64 gx), ((r 39), aI E 64 gy), ((r 40), aI E 64 gw), ((r 41), aI E 64 gt), ((r 47), aI E 64 bx), ((r 48), aI E 64 by_), ((r 49), aI E 64 bw), ((r 104), aI E 256 (fun _ => 0)), ((r 92), aI E 32000 (fun _ => 0)), ((r 93), aI E 2000 (fun _ => 0)), ((r 95), aJ E 2000 (fun _ => 0)), ((r 96), aI E 2000 (fun _ => 0)), ((r 97), aI E 32 (fun _ => 0)), ((r 30), aI E 32 (fun _ => 0))] H := hP
    have hD : va_D A [(h0, ob 12 ((mfs g).set 100 (.long 0))), ((r 38), aI E 64 gx), ((r 39), aI E 64 gy), ((r 40), aI E 64 gw), ((r 41), aI E 64 gt), ((r 47), aI E 64 bx), ((r 48), aI E 64 by_), ((r 49), aI E 64 bw), ((r 104), aI E 256 (fun _ => 0)), ((r 92), aI E 32000 (fun _ => 0)), ((r 93), aI E 2000 (fun _ => 0)), ((r 95), aJ E 2000 (fun _ => 0)), ((r 96), aI E 2000 (fun _ => 0)), ((r 97), aI E 32 (fun _ => 0)), ((r 30), aI E 32 (fun _ => 0))] := hD
    rw [mfs_set _ 100 _ (by decide)] at hP hD
    refine lv_aload_n hx hb dX12_resolve_27 rfl (lv_at hl 0 rfl) ?_
    refine lv_iconst (v := (-1)) hx hb dX12_resolve_28 (by decide) ?_
    refine va_put (D := E.1) (ci := 12) (v := .int (-1)) (ty := .int) (C := RX12) (T := TX12) (N := 116) hx hb hts iX12 tyX12 tyX12_ok nmX12 hown hK hP hD hS 0 rfl rfl 101 (by decide) (hts _ wdF_RX12_196) (fun _ h9 => h9) rfl (by decide +kernel) rfl rfl (by rw [mfs_len]; decide) dX12_resolve_29 (fun H locs hP hD hS => ?_)
    have hP : va_P E.1 vwCl [(h0, ob 12 ((mfs (updG g 100 (.long 0))).set 101 (.int (-1)))), ((r 38), aI E 64 gx), ((r 39), aI E 64 gy), ((r 40), aI E 64 gw), ((r 41), aI E 64 gt), ((r 47), aI E 64 bx), ((r 48), aI E 64 by_), ((r 49), aI E 64 bw), ((r 104), aI E 256 (fun _ => 0)), ((r 92), aI E 32000 (fun _ => 0)), ((r 93), aI E 2000 (fun _ => 0)), ((r 95), aJ E 2000 (fun _ => 0)), ((r 96), aI E 2000 (fun _ => 0)), ((r 97), aI E 32 (fun _ => 0)), ((r 30), aI E 32 (fun _ => 0))] H := hP
    have hD : va_D A [(h0, ob 12 ((mfs (updG g 100 (.long 0))).set 101 (.int (-1)))), ((r 38), aI E 64 gx), ((r 39), aI E 64 gy), ((r 40), aI E 64 gw), ((r 41), aI E 64 gt), ((r 47), aI E 64 bx), ((r 48), aI E 64 by_), ((r 49), aI E 64 bw), ((r 104), aI E 256 (fun _ => 0)), ((r 92), aI E 32000 (fun _ => 0)), ((r 93), aI E 2000 (fun _ => 0)), ((r 95), aJ E 2000 (fun _ => 0)), ((r 96), aI E 2000 (fun _ => 0)), ((r 97), aI E 32 (fun _ => 0)), ((r 30), aI E 32 (fun _ => 0))] := hD
    rw [mfs_set _ 101 _ (by decide)] at hP hD
    refine lv_aload_n hx hb dX12_resolve_32 rfl (lv_at hl 0 rfl) ?_
    refine va_get (D := E.1) (ci := 12) (v := .int (nI 0)) (C := RX12) (T := TX12) (N := 116) hx hb hts iX12 hown hK hP 0 rfl rfl 42 (by decide) (hts _ wdF_RX12_252) (fun _ h9 => h9) ((mfs_get _ 42 (by decide)).trans (congrArg some (show (updG (updG g 100 (.long 0)) 101 (.int (-1))) 42 = .int (nI 0) from (hI 42 (by decide) rfl)))) dX12_resolve_33 ?_
    refine lv_istore_n (lv' := [(2, .int (nI 0)), (0, .ref h0), (1, .int v)]) hx hb dX12_resolve_36 rfl hl (by decide) rfl (fun ls hl => ?_)
    refine lv_aload_n hx hb dX12_resolve_37 rfl (lv_at hl 1 rfl) ?_
    refine va_get (D := E.1) (ci := 12) (v := .int (nI 0)) (C := RX12) (T := TX12) (N := 116) hx hb hts iX12 hown hK hP 0 rfl rfl 43 (by decide) (hts _ wdF_RX12_255) (fun _ h9 => h9) ((mfs_get _ 43 (by decide)).trans (congrArg some (show (updG (updG g 100 (.long 0)) 101 (.int (-1))) 43 = .int (nI 0) from (hI 43 (by decide) rfl)))) dX12_resolve_38 ?_
    refine lv_istore_n (lv' := [(3, .int (nI 0)), (2, .int (nI 0)), (0, .ref h0), (1, .int v)]) hx hb dX12_resolve_41 rfl hl (by decide) rfl (fun ls hl => ?_)
    refine lv_aload_n hx hb dX12_resolve_42 rfl (lv_at hl 2 rfl) ?_
    refine cV_go (wr := [((r 47), aI E 64 bx), ((r 48), aI E 64 by_), ((r 49), aI E 64 bw), ((r 92), aI E 32000 (fun _ => 0)), ((r 93), aI E 2000 (fun _ => 0)), ((r 95), aJ E 2000 (fun _ => 0)), ((r 96), aI E 2000 (fun _ => 0)), ((r 97), aI E 32 (fun _ => 0)), ((r 30), aI E 32 (fun _ => 0))]) (cM_runV (As := []) (rest := []) F (c_X12_savesFloor l E h0 r (updG (updG g 100 (.long 0)) 101 (.int (-1))) gx gy gw gt (fun _ => 0) (mOK_u (mOK_u hR rfl) rfl)) yy_X12_savesFloor yi_X12_savesFloor wdM_RX12_650 hP hD hS hK hZ hA [0, 1, 2, 3, 4, 8] rfl rfl 0 12 rfl rfl rfl hl.1 rfl (Nat.le_of_ble_eq_true rfl) dX12_resolve_43 ⟨by decide, by decide⟩ ⟨by decide, by decide⟩) hP hD hS hA [0, 1, 2, 3, 4, 8] [5, 6, 7, 9, 10, 11, 12, 13, 14] rfl rfl rfl (by decide) (fun u_1041 H locs hw_1040 hP hD hS => ?_)
    obtain ⟨s2, rfl⟩ : ∃ z, z = u_1041 := ⟨_, rfl⟩
    try dsimp only at hw_1040
    have hP : va_P E.1 vwCl [((r 47), aI E 64 bx), ((r 48), aI E 64 by_), ((r 49), aI E 64 bw), ((r 92), aI E 32000 (fun _ => 0)), ((r 93), aI E 2000 (fun _ => 0)), ((r 95), aJ E 2000 (fun _ => 0)), ((r 96), aI E 2000 (fun _ => 0)), ((r 97), aI E 32 (fun _ => 0)), ((r 30), aI E 32 (fun _ => 0)), (h0, ob 12 (mfs (updG (updG g 100 (.long 0)) 101 (.int (-1))))), ((r 38), aI E 64 gx), ((r 39), aI E 64 gy), ((r 40), aI E 64 gw), ((r 41), aI E 64 gt), ((r 104), aI E 256 s2)] H := hP
    have hD : va_D A [((r 47), aI E 64 bx), ((r 48), aI E 64 by_), ((r 49), aI E 64 bw), ((r 92), aI E 32000 (fun _ => 0)), ((r 93), aI E 2000 (fun _ => 0)), ((r 95), aJ E 2000 (fun _ => 0)), ((r 96), aI E 2000 (fun _ => 0)), ((r 97), aI E 32 (fun _ => 0)), ((r 30), aI E 32 (fun _ => 0)), (h0, ob 12 (mfs (updG (updG g 100 (.long 0)) 101 (.int (-1))))), ((r 38), aI E 64 gx), ((r 39), aI E 64 gy), ((r 40), aI E 64 gw), ((r 41), aI E 64 gt), ((r 104), aI E 256 s2)] := hD
    refine lv_aload_n hx hb dX12_resolve_46 rfl (lv_at hl 2 rfl) ?_
    refine lv_aload_n hx hb dX12_resolve_47 rfl (lv_at hl 2 rfl) ?_
    refine lv_iload_n hx hb dX12_resolve_48 rfl (lv_at hl 3 rfl) ?_
    refine cI_go (wr := []) (cM_runV (As := [.int v]) (rest := [.ref h0]) F (z74_X12_searches l E h0 r g gx gy gw gt fx fy fw bx by_ bw v s2 hR hI hm1 hm2 hm3 hm4) yy_X12_searches yi_X12_searches wdM_RX12_653 hP hD hS hK hZ hA [0, 1, 2, 3, 4, 5, 6, 7, 8, 9, 10, 11, 12, 13, 14] rfl rfl 9 12 rfl rfl rfl hl.1 rfl (Nat.le_of_ble_eq_true rfl) dX12_resolve_49 ⟨by decide, by decide⟩ ⟨by decide, by decide⟩) hP hD hS hA [0, 1, 2, 3, 4, 5, 6, 7, 8, 9, 10, 11, 12, 13, 14] [] rfl rfl rfl (by decide) (fun r_1090 u_1089 H locs hw_1088 hP hD hS => ?_)
    try dsimp only at hw_1088
    have hP : va_P E.1 vwCl [((r 92), aI E 32000 (upd (upd (upd (upd (upd (upd (upd (upd (fun _ => 0) 0 (((gx 0) ||| ((gy 0) <<< ((nI 8) &&& 31))) ||| ((gw 0) <<< ((nI 16) &&& 31)))) 1 (((gx 1) ||| ((gy 1) <<< ((nI 8) &&& 31))) ||| ((gw 1) <<< ((nI 16) &&& 31)))) 2 (((gx 2) ||| ((gy 2) <<< ((nI 8) &&& 31))) ||| ((gw 2) <<< ((nI 16) &&& 31)))) 3 (((gx 3) ||| ((gy 3) <<< ((nI 8) &&& 31))) ||| ((gw 3) <<< ((nI 16) &&& 31)))) 4 (((gx 4) ||| ((gy 4) <<< ((nI 8) &&& 31))) ||| ((gw 4) <<< ((nI 16) &&& 31)))) 5 (((gx 5) ||| ((gy 5) <<< ((nI 8) &&& 31))) ||| ((gw 5) <<< ((nI 16) &&& 31)))) 6 (((gx 6) ||| ((gy 6) <<< ((nI 8) &&& 31))) ||| ((gw 6) <<< ((nI 16) &&& 31)))) 7 (((gx 7) ||| ((gy 7) <<< ((nI 8) &&& 31))) ||| ((gw 7) <<< ((nI 16) &&& 31))))), ((r 93), aI E 2000 (upd (fun _ => 0) 0 (nI 0))), ((r 95), aJ E 2000 (fun _ => 0)), ((r 96), aI E 2000 (fun _ => 0)), ((r 97), aI E 32 (fun _ => 0)), ((r 30), aI E 32 (fun _ => 0)), ((r 41), aI E 64 gt), ((r 104), aI E 256 s2), (h0, ob 12 (mfs (updG (updG (updG (updG (updG (updG (updG (updG g 100 (.long 0)) 101 (.int (-1))) 90 (.int (nI 0))) 99 (.int (-1))) 98 (.int (nI 0))) 99 (.int (nI 0))) 90 (.int (nI 1))) 89 (.int (nI 1))))), ((r 38), aI E 64 gx), ((r 39), aI E 64 gy), ((r 40), aI E 64 gw), ((r 47), aI E 64 bx), ((r 48), aI E 64 by_), ((r 49), aI E 64 bw)] H := hP
    have hD : va_D A [((r 92), aI E 32000 (upd (upd (upd (upd (upd (upd (upd (upd (fun _ => 0) 0 (((gx 0) ||| ((gy 0) <<< ((nI 8) &&& 31))) ||| ((gw 0) <<< ((nI 16) &&& 31)))) 1 (((gx 1) ||| ((gy 1) <<< ((nI 8) &&& 31))) ||| ((gw 1) <<< ((nI 16) &&& 31)))) 2 (((gx 2) ||| ((gy 2) <<< ((nI 8) &&& 31))) ||| ((gw 2) <<< ((nI 16) &&& 31)))) 3 (((gx 3) ||| ((gy 3) <<< ((nI 8) &&& 31))) ||| ((gw 3) <<< ((nI 16) &&& 31)))) 4 (((gx 4) ||| ((gy 4) <<< ((nI 8) &&& 31))) ||| ((gw 4) <<< ((nI 16) &&& 31)))) 5 (((gx 5) ||| ((gy 5) <<< ((nI 8) &&& 31))) ||| ((gw 5) <<< ((nI 16) &&& 31)))) 6 (((gx 6) ||| ((gy 6) <<< ((nI 8) &&& 31))) ||| ((gw 6) <<< ((nI 16) &&& 31)))) 7 (((gx 7) ||| ((gy 7) <<< ((nI 8) &&& 31))) ||| ((gw 7) <<< ((nI 16) &&& 31))))), ((r 93), aI E 2000 (upd (fun _ => 0) 0 (nI 0))), ((r 95), aJ E 2000 (fun _ => 0)), ((r 96), aI E 2000 (fun _ => 0)), ((r 97), aI E 32 (fun _ => 0)), ((r 30), aI E 32 (fun _ => 0)), ((r 41), aI E 64 gt), ((r 104), aI E 256 s2), (h0, ob 12 (mfs (updG (updG (updG (updG (updG (updG (updG (updG g 100 (.long 0)) 101 (.int (-1))) 90 (.int (nI 0))) 99 (.int (-1))) 98 (.int (nI 0))) 99 (.int (nI 0))) 90 (.int (nI 1))) 89 (.int (nI 1))))), ((r 38), aI E 64 gx), ((r 39), aI E 64 gy), ((r 40), aI E 64 gw), ((r 47), aI E 64 bx), ((r 48), aI E 64 by_), ((r 49), aI E 64 bw)] := hD
    subst hw_1088
    refine va_put (D := E.1) (ci := 12) (v := .int (nI 0)) (ty := .int) (C := RX12) (T := TX12) (N := 116) hx hb hts iX12 tyX12 tyX12_ok nmX12 hown hK hP hD hS 8 rfl rfl 91 (by decide) (hts _ wdF_RX12_656) (fun _ h9 => h9) rfl (by decide +kernel) rfl rfl (by rw [mfs_len]; decide) dX12_resolve_52 (fun H locs hP hD hS => ?_)
    have hP : va_P E.1 vwCl [((r 92), aI E 32000 (upd (upd (upd (upd (upd (upd (upd (upd (fun _ => 0) 0 (((gx 0) ||| ((gy 0) <<< ((nI 8) &&& 31))) ||| ((gw 0) <<< ((nI 16) &&& 31)))) 1 (((gx 1) ||| ((gy 1) <<< ((nI 8) &&& 31))) ||| ((gw 1) <<< ((nI 16) &&& 31)))) 2 (((gx 2) ||| ((gy 2) <<< ((nI 8) &&& 31))) ||| ((gw 2) <<< ((nI 16) &&& 31)))) 3 (((gx 3) ||| ((gy 3) <<< ((nI 8) &&& 31))) ||| ((gw 3) <<< ((nI 16) &&& 31)))) 4 (((gx 4) ||| ((gy 4) <<< ((nI 8) &&& 31))) ||| ((gw 4) <<< ((nI 16) &&& 31)))) 5 (((gx 5) ||| ((gy 5) <<< ((nI 8) &&& 31))) ||| ((gw 5) <<< ((nI 16) &&& 31)))) 6 (((gx 6) ||| ((gy 6) <<< ((nI 8) &&& 31))) ||| ((gw 6) <<< ((nI 16) &&& 31)))) 7 (((gx 7) ||| ((gy 7) <<< ((nI 8) &&& 31))) ||| ((gw 7) <<< ((nI 16) &&& 31))))), ((r 93), aI E 2000 (upd (fun _ => 0) 0 (nI 0))), ((r 95), aJ E 2000 (fun _ => 0)), ((r 96), aI E 2000 (fun _ => 0)), ((r 97), aI E 32 (fun _ => 0)), ((r 30), aI E 32 (fun _ => 0)), ((r 41), aI E 64 gt), ((r 104), aI E 256 s2), (h0, ob 12 ((mfs (updG (updG (updG (updG (updG (updG (updG (updG g 100 (.long 0)) 101 (.int (-1))) 90 (.int (nI 0))) 99 (.int (-1))) 98 (.int (nI 0))) 99 (.int (nI 0))) 90 (.int (nI 1))) 89 (.int (nI 1)))).set 91 (.int (nI 0)))), ((r 38), aI E 64 gx), ((r 39), aI E 64 gy), ((r 40), aI E 64 gw), ((r 47), aI E 64 bx), ((r 48), aI E 64 by_), ((r 49), aI E 64 bw)] H := hP
    have hD : va_D A [((r 92), aI E 32000 (upd (upd (upd (upd (upd (upd (upd (upd (fun _ => 0) 0 (((gx 0) ||| ((gy 0) <<< ((nI 8) &&& 31))) ||| ((gw 0) <<< ((nI 16) &&& 31)))) 1 (((gx 1) ||| ((gy 1) <<< ((nI 8) &&& 31))) ||| ((gw 1) <<< ((nI 16) &&& 31)))) 2 (((gx 2) ||| ((gy 2) <<< ((nI 8) &&& 31))) ||| ((gw 2) <<< ((nI 16) &&& 31)))) 3 (((gx 3) ||| ((gy 3) <<< ((nI 8) &&& 31))) ||| ((gw 3) <<< ((nI 16) &&& 31)))) 4 (((gx 4) ||| ((gy 4) <<< ((nI 8) &&& 31))) ||| ((gw 4) <<< ((nI 16) &&& 31)))) 5 (((gx 5) ||| ((gy 5) <<< ((nI 8) &&& 31))) ||| ((gw 5) <<< ((nI 16) &&& 31)))) 6 (((gx 6) ||| ((gy 6) <<< ((nI 8) &&& 31))) ||| ((gw 6) <<< ((nI 16) &&& 31)))) 7 (((gx 7) ||| ((gy 7) <<< ((nI 8) &&& 31))) ||| ((gw 7) <<< ((nI 16) &&& 31))))), ((r 93), aI E 2000 (upd (fun _ => 0) 0 (nI 0))), ((r 95), aJ E 2000 (fun _ => 0)), ((r 96), aI E 2000 (fun _ => 0)), ((r 97), aI E 32 (fun _ => 0)), ((r 30), aI E 32 (fun _ => 0)), ((r 41), aI E 64 gt), ((r 104), aI E 256 s2), (h0, ob 12 ((mfs (updG (updG (updG (updG (updG (updG (updG (updG g 100 (.long 0)) 101 (.int (-1))) 90 (.int (nI 0))) 99 (.int (-1))) 98 (.int (nI 0))) 99 (.int (nI 0))) 90 (.int (nI 1))) 89 (.int (nI 1)))).set 91 (.int (nI 0)))), ((r 38), aI E 64 gx), ((r 39), aI E 64 gy), ((r 40), aI E 64 gw), ((r 47), aI E 64 bx), ((r 48), aI E 64 by_), ((r 49), aI E 64 bw)] := hD
    rw [mfs_set _ 91 _ (by decide)] at hP hD
    refine lv_aload_n hx hb dX12_resolve_55 rfl (lv_at hl 2 rfl) ?_
    refine cV_go (wr := [((r 92), aI E 32000 (upd (upd (upd (upd (upd (upd (upd (upd (fun _ => 0) 0 (((gx 0) ||| ((gy 0) <<< ((nI 8) &&& 31))) ||| ((gw 0) <<< ((nI 16) &&& 31)))) 1 (((gx 1) ||| ((gy 1) <<< ((nI 8) &&& 31))) ||| ((gw 1) <<< ((nI 16) &&& 31)))) 2 (((gx 2) ||| ((gy 2) <<< ((nI 8) &&& 31))) ||| ((gw 2) <<< ((nI 16) &&& 31)))) 3 (((gx 3) ||| ((gy 3) <<< ((nI 8) &&& 31))) ||| ((gw 3) <<< ((nI 16) &&& 31)))) 4 (((gx 4) ||| ((gy 4) <<< ((nI 8) &&& 31))) ||| ((gw 4) <<< ((nI 16) &&& 31)))) 5 (((gx 5) ||| ((gy 5) <<< ((nI 8) &&& 31))) ||| ((gw 5) <<< ((nI 16) &&& 31)))) 6 (((gx 6) ||| ((gy 6) <<< ((nI 8) &&& 31))) ||| ((gw 6) <<< ((nI 16) &&& 31)))) 7 (((gx 7) ||| ((gy 7) <<< ((nI 8) &&& 31))) ||| ((gw 7) <<< ((nI 16) &&& 31))))), ((r 93), aI E 2000 (upd (fun _ => 0) 0 (nI 0))), ((r 95), aJ E 2000 (fun _ => 0)), ((r 96), aI E 2000 (fun _ => 0)), ((r 97), aI E 32 (fun _ => 0)), ((r 30), aI E 32 (fun _ => 0)), ((r 47), aI E 64 bx), ((r 48), aI E 64 by_), ((r 49), aI E 64 bw)]) (cM_runV (As := []) (rest := []) F (c_X12_givesFloor l E h0 r (updG (updG (updG (updG (updG (updG (updG (updG (updG g 100 (.long 0)) 101 (.int (-1))) 90 (.int (nI 0))) 99 (.int (-1))) 98 (.int (nI 0))) 99 (.int (nI 0))) 90 (.int (nI 1))) 89 (.int (nI 1))) 91 (.int (nI 0))) gx gy gw gt s2 (mOK_u (mOK_u (mOK_u (mOK_u (mOK_u (mOK_u (mOK_u (mOK_u (mOK_u hR rfl) rfl) rfl) rfl) rfl) rfl) rfl) rfl) rfl)) yy_X12_givesFloor yi_X12_givesFloor wdM_RX12_659 hP hD hS hK hZ hA [8, 9, 10, 11, 6, 7] rfl rfl 8 12 rfl rfl rfl hl.1 rfl (Nat.le_of_ble_eq_true rfl) dX12_resolve_56 ⟨by decide, by decide⟩ ⟨by decide, by decide⟩) hP hD hS hA [8, 9, 10, 11, 6, 7] [0, 1, 2, 3, 4, 5, 12, 13, 14] rfl rfl rfl (by decide) (fun u_1092 H locs hw_1091 hP hD hS => ?_)
    obtain ⟨x2, y2, w2, t2⟩ := u_1092
    try dsimp only at hw_1091
    have hP : va_P E.1 vwCl [((r 92), aI E 32000 (upd (upd (upd (upd (upd (upd (upd (upd (fun _ => 0) 0 (((gx 0) ||| ((gy 0) <<< ((nI 8) &&& 31))) ||| ((gw 0) <<< ((nI 16) &&& 31)))) 1 (((gx 1) ||| ((gy 1) <<< ((nI 8) &&& 31))) ||| ((gw 1) <<< ((nI 16) &&& 31)))) 2 (((gx 2) ||| ((gy 2) <<< ((nI 8) &&& 31))) ||| ((gw 2) <<< ((nI 16) &&& 31)))) 3 (((gx 3) ||| ((gy 3) <<< ((nI 8) &&& 31))) ||| ((gw 3) <<< ((nI 16) &&& 31)))) 4 (((gx 4) ||| ((gy 4) <<< ((nI 8) &&& 31))) ||| ((gw 4) <<< ((nI 16) &&& 31)))) 5 (((gx 5) ||| ((gy 5) <<< ((nI 8) &&& 31))) ||| ((gw 5) <<< ((nI 16) &&& 31)))) 6 (((gx 6) ||| ((gy 6) <<< ((nI 8) &&& 31))) ||| ((gw 6) <<< ((nI 16) &&& 31)))) 7 (((gx 7) ||| ((gy 7) <<< ((nI 8) &&& 31))) ||| ((gw 7) <<< ((nI 16) &&& 31))))), ((r 93), aI E 2000 (upd (fun _ => 0) 0 (nI 0))), ((r 95), aJ E 2000 (fun _ => 0)), ((r 96), aI E 2000 (fun _ => 0)), ((r 97), aI E 32 (fun _ => 0)), ((r 30), aI E 32 (fun _ => 0)), ((r 47), aI E 64 bx), ((r 48), aI E 64 by_), ((r 49), aI E 64 bw), (h0, ob 12 (mfs (updG (updG (updG (updG (updG (updG (updG (updG (updG g 100 (.long 0)) 101 (.int (-1))) 90 (.int (nI 0))) 99 (.int (-1))) 98 (.int (nI 0))) 99 (.int (nI 0))) 90 (.int (nI 1))) 89 (.int (nI 1))) 91 (.int (nI 0))))), ((r 38), aI E 64 x2), ((r 39), aI E 64 y2), ((r 40), aI E 64 w2), ((r 41), aI E 64 t2), ((r 104), aI E 256 s2)] H := hP
    have hD : va_D A [((r 92), aI E 32000 (upd (upd (upd (upd (upd (upd (upd (upd (fun _ => 0) 0 (((gx 0) ||| ((gy 0) <<< ((nI 8) &&& 31))) ||| ((gw 0) <<< ((nI 16) &&& 31)))) 1 (((gx 1) ||| ((gy 1) <<< ((nI 8) &&& 31))) ||| ((gw 1) <<< ((nI 16) &&& 31)))) 2 (((gx 2) ||| ((gy 2) <<< ((nI 8) &&& 31))) ||| ((gw 2) <<< ((nI 16) &&& 31)))) 3 (((gx 3) ||| ((gy 3) <<< ((nI 8) &&& 31))) ||| ((gw 3) <<< ((nI 16) &&& 31)))) 4 (((gx 4) ||| ((gy 4) <<< ((nI 8) &&& 31))) ||| ((gw 4) <<< ((nI 16) &&& 31)))) 5 (((gx 5) ||| ((gy 5) <<< ((nI 8) &&& 31))) ||| ((gw 5) <<< ((nI 16) &&& 31)))) 6 (((gx 6) ||| ((gy 6) <<< ((nI 8) &&& 31))) ||| ((gw 6) <<< ((nI 16) &&& 31)))) 7 (((gx 7) ||| ((gy 7) <<< ((nI 8) &&& 31))) ||| ((gw 7) <<< ((nI 16) &&& 31))))), ((r 93), aI E 2000 (upd (fun _ => 0) 0 (nI 0))), ((r 95), aJ E 2000 (fun _ => 0)), ((r 96), aI E 2000 (fun _ => 0)), ((r 97), aI E 32 (fun _ => 0)), ((r 30), aI E 32 (fun _ => 0)), ((r 47), aI E 64 bx), ((r 48), aI E 64 by_), ((r 49), aI E 64 bw), (h0, ob 12 (mfs (updG (updG (updG (updG (updG (updG (updG (updG (updG g 100 (.long 0)) 101 (.int (-1))) 90 (.int (nI 0))) 99 (.int (-1))) 98 (.int (nI 0))) 99 (.int (nI 0))) 90 (.int (nI 1))) 89 (.int (nI 1))) 91 (.int (nI 0))))), ((r 38), aI E 64 x2), ((r 39), aI E 64 y2), ((r 40), aI E 64 w2), ((r 41), aI E 64 t2), ((r 104), aI E 256 s2)] := hD
    refine lv_aload_n hx hb dX12_resolve_59 rfl (lv_at hl 2 rfl) ?_
    refine lv_iload_n hx hb dX12_resolve_60 rfl (lv_at hl 1 rfl) ?_
    refine va_put (D := E.1) (ci := 12) (v := .int (nI 0)) (ty := .int) (C := RX12) (T := TX12) (N := 116) hx hb hts iX12 tyX12 tyX12_ok nmX12 hown hK hP hD hS 9 rfl rfl 42 (by decide) (hts _ wdF_RX12_252) (fun _ h9 => h9) rfl (by decide +kernel) rfl rfl (by rw [mfs_len]; decide) dX12_resolve_61 (fun H locs hP hD hS => ?_)
    have hP : va_P E.1 vwCl [((r 92), aI E 32000 (upd (upd (upd (upd (upd (upd (upd (upd (fun _ => 0) 0 (((gx 0) ||| ((gy 0) <<< ((nI 8) &&& 31))) ||| ((gw 0) <<< ((nI 16) &&& 31)))) 1 (((gx 1) ||| ((gy 1) <<< ((nI 8) &&& 31))) ||| ((gw 1) <<< ((nI 16) &&& 31)))) 2 (((gx 2) ||| ((gy 2) <<< ((nI 8) &&& 31))) ||| ((gw 2) <<< ((nI 16) &&& 31)))) 3 (((gx 3) ||| ((gy 3) <<< ((nI 8) &&& 31))) ||| ((gw 3) <<< ((nI 16) &&& 31)))) 4 (((gx 4) ||| ((gy 4) <<< ((nI 8) &&& 31))) ||| ((gw 4) <<< ((nI 16) &&& 31)))) 5 (((gx 5) ||| ((gy 5) <<< ((nI 8) &&& 31))) ||| ((gw 5) <<< ((nI 16) &&& 31)))) 6 (((gx 6) ||| ((gy 6) <<< ((nI 8) &&& 31))) ||| ((gw 6) <<< ((nI 16) &&& 31)))) 7 (((gx 7) ||| ((gy 7) <<< ((nI 8) &&& 31))) ||| ((gw 7) <<< ((nI 16) &&& 31))))), ((r 93), aI E 2000 (upd (fun _ => 0) 0 (nI 0))), ((r 95), aJ E 2000 (fun _ => 0)), ((r 96), aI E 2000 (fun _ => 0)), ((r 97), aI E 32 (fun _ => 0)), ((r 30), aI E 32 (fun _ => 0)), ((r 47), aI E 64 bx), ((r 48), aI E 64 by_), ((r 49), aI E 64 bw), (h0, ob 12 ((mfs (updG (updG (updG (updG (updG (updG (updG (updG (updG g 100 (.long 0)) 101 (.int (-1))) 90 (.int (nI 0))) 99 (.int (-1))) 98 (.int (nI 0))) 99 (.int (nI 0))) 90 (.int (nI 1))) 89 (.int (nI 1))) 91 (.int (nI 0)))).set 42 (.int (nI 0)))), ((r 38), aI E 64 x2), ((r 39), aI E 64 y2), ((r 40), aI E 64 w2), ((r 41), aI E 64 t2), ((r 104), aI E 256 s2)] H := hP
    have hD : va_D A [((r 92), aI E 32000 (upd (upd (upd (upd (upd (upd (upd (upd (fun _ => 0) 0 (((gx 0) ||| ((gy 0) <<< ((nI 8) &&& 31))) ||| ((gw 0) <<< ((nI 16) &&& 31)))) 1 (((gx 1) ||| ((gy 1) <<< ((nI 8) &&& 31))) ||| ((gw 1) <<< ((nI 16) &&& 31)))) 2 (((gx 2) ||| ((gy 2) <<< ((nI 8) &&& 31))) ||| ((gw 2) <<< ((nI 16) &&& 31)))) 3 (((gx 3) ||| ((gy 3) <<< ((nI 8) &&& 31))) ||| ((gw 3) <<< ((nI 16) &&& 31)))) 4 (((gx 4) ||| ((gy 4) <<< ((nI 8) &&& 31))) ||| ((gw 4) <<< ((nI 16) &&& 31)))) 5 (((gx 5) ||| ((gy 5) <<< ((nI 8) &&& 31))) ||| ((gw 5) <<< ((nI 16) &&& 31)))) 6 (((gx 6) ||| ((gy 6) <<< ((nI 8) &&& 31))) ||| ((gw 6) <<< ((nI 16) &&& 31)))) 7 (((gx 7) ||| ((gy 7) <<< ((nI 8) &&& 31))) ||| ((gw 7) <<< ((nI 16) &&& 31))))), ((r 93), aI E 2000 (upd (fun _ => 0) 0 (nI 0))), ((r 95), aJ E 2000 (fun _ => 0)), ((r 96), aI E 2000 (fun _ => 0)), ((r 97), aI E 32 (fun _ => 0)), ((r 30), aI E 32 (fun _ => 0)), ((r 47), aI E 64 bx), ((r 48), aI E 64 by_), ((r 49), aI E 64 bw), (h0, ob 12 ((mfs (updG (updG (updG (updG (updG (updG (updG (updG (updG g 100 (.long 0)) 101 (.int (-1))) 90 (.int (nI 0))) 99 (.int (-1))) 98 (.int (nI 0))) 99 (.int (nI 0))) 90 (.int (nI 1))) 89 (.int (nI 1))) 91 (.int (nI 0)))).set 42 (.int (nI 0)))), ((r 38), aI E 64 x2), ((r 39), aI E 64 y2), ((r 40), aI E 64 w2), ((r 41), aI E 64 t2), ((r 104), aI E 256 s2)] := hD
    rw [mfs_set _ 42 _ (by decide)] at hP hD
    refine lv_aload_n hx hb dX12_resolve_64 rfl (lv_at hl 2 rfl) ?_
    refine lv_iload_n hx hb dX12_resolve_65 rfl (lv_at hl 0 rfl) ?_
    refine va_put (D := E.1) (ci := 12) (v := .int (nI 0)) (ty := .int) (C := RX12) (T := TX12) (N := 116) hx hb hts iX12 tyX12 tyX12_ok nmX12 hown hK hP hD hS 9 rfl rfl 43 (by decide) (hts _ wdF_RX12_255) (fun _ h9 => h9) rfl (by decide +kernel) rfl rfl (by rw [mfs_len]; decide) dX12_resolve_66 (fun H locs hP hD hS => ?_)
    have hP : va_P E.1 vwCl [((r 92), aI E 32000 (upd (upd (upd (upd (upd (upd (upd (upd (fun _ => 0) 0 (((gx 0) ||| ((gy 0) <<< ((nI 8) &&& 31))) ||| ((gw 0) <<< ((nI 16) &&& 31)))) 1 (((gx 1) ||| ((gy 1) <<< ((nI 8) &&& 31))) ||| ((gw 1) <<< ((nI 16) &&& 31)))) 2 (((gx 2) ||| ((gy 2) <<< ((nI 8) &&& 31))) ||| ((gw 2) <<< ((nI 16) &&& 31)))) 3 (((gx 3) ||| ((gy 3) <<< ((nI 8) &&& 31))) ||| ((gw 3) <<< ((nI 16) &&& 31)))) 4 (((gx 4) ||| ((gy 4) <<< ((nI 8) &&& 31))) ||| ((gw 4) <<< ((nI 16) &&& 31)))) 5 (((gx 5) ||| ((gy 5) <<< ((nI 8) &&& 31))) ||| ((gw 5) <<< ((nI 16) &&& 31)))) 6 (((gx 6) ||| ((gy 6) <<< ((nI 8) &&& 31))) ||| ((gw 6) <<< ((nI 16) &&& 31)))) 7 (((gx 7) ||| ((gy 7) <<< ((nI 8) &&& 31))) ||| ((gw 7) <<< ((nI 16) &&& 31))))), ((r 93), aI E 2000 (upd (fun _ => 0) 0 (nI 0))), ((r 95), aJ E 2000 (fun _ => 0)), ((r 96), aI E 2000 (fun _ => 0)), ((r 97), aI E 32 (fun _ => 0)), ((r 30), aI E 32 (fun _ => 0)), ((r 47), aI E 64 bx), ((r 48), aI E 64 by_), ((r 49), aI E 64 bw), (h0, ob 12 ((mfs (updG (updG (updG (updG (updG (updG (updG (updG (updG (updG g 100 (.long 0)) 101 (.int (-1))) 90 (.int (nI 0))) 99 (.int (-1))) 98 (.int (nI 0))) 99 (.int (nI 0))) 90 (.int (nI 1))) 89 (.int (nI 1))) 91 (.int (nI 0))) 42 (.int (nI 0)))).set 43 (.int (nI 0)))), ((r 38), aI E 64 x2), ((r 39), aI E 64 y2), ((r 40), aI E 64 w2), ((r 41), aI E 64 t2), ((r 104), aI E 256 s2)] H := hP
    have hD : va_D A [((r 92), aI E 32000 (upd (upd (upd (upd (upd (upd (upd (upd (fun _ => 0) 0 (((gx 0) ||| ((gy 0) <<< ((nI 8) &&& 31))) ||| ((gw 0) <<< ((nI 16) &&& 31)))) 1 (((gx 1) ||| ((gy 1) <<< ((nI 8) &&& 31))) ||| ((gw 1) <<< ((nI 16) &&& 31)))) 2 (((gx 2) ||| ((gy 2) <<< ((nI 8) &&& 31))) ||| ((gw 2) <<< ((nI 16) &&& 31)))) 3 (((gx 3) ||| ((gy 3) <<< ((nI 8) &&& 31))) ||| ((gw 3) <<< ((nI 16) &&& 31)))) 4 (((gx 4) ||| ((gy 4) <<< ((nI 8) &&& 31))) ||| ((gw 4) <<< ((nI 16) &&& 31)))) 5 (((gx 5) ||| ((gy 5) <<< ((nI 8) &&& 31))) ||| ((gw 5) <<< ((nI 16) &&& 31)))) 6 (((gx 6) ||| ((gy 6) <<< ((nI 8) &&& 31))) ||| ((gw 6) <<< ((nI 16) &&& 31)))) 7 (((gx 7) ||| ((gy 7) <<< ((nI 8) &&& 31))) ||| ((gw 7) <<< ((nI 16) &&& 31))))), ((r 93), aI E 2000 (upd (fun _ => 0) 0 (nI 0))), ((r 95), aJ E 2000 (fun _ => 0)), ((r 96), aI E 2000 (fun _ => 0)), ((r 97), aI E 32 (fun _ => 0)), ((r 30), aI E 32 (fun _ => 0)), ((r 47), aI E 64 bx), ((r 48), aI E 64 by_), ((r 49), aI E 64 bw), (h0, ob 12 ((mfs (updG (updG (updG (updG (updG (updG (updG (updG (updG (updG g 100 (.long 0)) 101 (.int (-1))) 90 (.int (nI 0))) 99 (.int (-1))) 98 (.int (nI 0))) 99 (.int (nI 0))) 90 (.int (nI 1))) 89 (.int (nI 1))) 91 (.int (nI 0))) 42 (.int (nI 0)))).set 43 (.int (nI 0)))), ((r 38), aI E 64 x2), ((r 39), aI E 64 y2), ((r 40), aI E 64 w2), ((r 41), aI E 64 t2), ((r 104), aI E 256 s2)] := hD
    rw [mfs_set _ 43 _ (by decide)] at hP hD
    refine lv_aload_n hx hb dX12_resolve_69 rfl (lv_at hl 2 rfl) ?_
    refine va_get (D := E.1) (ci := 12) (v := .int (nI 0)) (C := RX12) (T := TX12) (N := 116) hx hb hts iX12 hown hK hP 9 rfl rfl 91 (by decide) (hts _ wdF_RX12_656) (fun _ h9 => h9) ((mfs_get _ 91 (by decide)).trans (congrArg some (show (updG (updG (updG (updG (updG (updG (updG (updG (updG (updG (updG g 100 (.long 0)) 101 (.int (-1))) 90 (.int (nI 0))) 99 (.int (-1))) 98 (.int (nI 0))) 99 (.int (nI 0))) 90 (.int (nI 1))) 89 (.int (nI 1))) 91 (.int (nI 0))) 42 (.int (nI 0))) 43 (.int (nI 0))) 91 = .int (nI 0) from rfl))) dX12_resolve_70 ?_
    refine lv_if_ge (tgt := 81) hx hb dX12_resolve_73 (by decide) (fun c_1094 => ?_) (fun c_1094 => absurd (by decide) c_1094)
    refine lv_iconst (v := nI 0) hx hb dX12_resolve_81 (by decide) ?_
    refine lv_istore (lv' := [(4, .int (nI 0)), (3, .int (nI 0)), (2, .int (nI 0)), (0, .ref h0), (1, .int v)]) hx hb dX12_resolve_82 hl (by decide) rfl (fun ls hl => ?_)
    refine lv_iload hx hb dX12_resolve_84 (lv_at hl 0 rfl) ?_
    refine lv_aload_n hx hb dX12_resolve_86 rfl (lv_at hl 3 rfl) ?_
    refine va_get (D := E.1) (ci := 12) (v := .int (nI 0)) (C := RX12) (T := TX12) (N := 116) hx hb hts iX12 hown hK hP 9 rfl rfl 98 (by decide) (hts _ wdF_RX12_635) (fun _ h9 => h9) ((mfs_get _ 98 (by decide)).trans (congrArg some (show (updG (updG (updG (updG (updG (updG (updG (updG (updG (updG (updG g 100 (.long 0)) 101 (.int (-1))) 90 (.int (nI 0))) 99 (.int (-1))) 98 (.int (nI 0))) 99 (.int (nI 0))) 90 (.int (nI 1))) 89 (.int (nI 1))) 91 (.int (nI 0))) 42 (.int (nI 0))) 43 (.int (nI 0))) 98 = .int (nI 0) from rfl))) dX12_resolve_87 ?_
    refine lv_icmp_ge (tgt := 117) hx hb dX12_resolve_90 (by decide) (fun c_1095 => ?_) (fun c_1095 => absurd (by decide) c_1095)
    refine lv_iconst (v := nI 0) hx hb dX12_resolve_117 (by decide) ?_
    refine lv_istore (lv' := [(4, .int (nI 0)), (3, .int (nI 0)), (2, .int (nI 0)), (0, .ref h0), (1, .int v)]) hx hb dX12_resolve_118 hl (by decide) rfl (fun ls hl => ?_)
    refine lv_iload hx hb dX12_resolve_120 (lv_at hl 0 rfl) ?_
    refine lv_aload_n hx hb dX12_resolve_122 rfl (lv_at hl 3 rfl) ?_
    refine va_get (D := E.1) (ci := 12) (v := .int (nI 1)) (C := RX12) (T := TX12) (N := 116) hx hb hts iX12 hown hK hP 9 rfl rfl 90 (by decide) (hts _ wdF_RX12_623) (fun _ h9 => h9) ((mfs_get _ 90 (by decide)).trans (congrArg some (show (updG (updG (updG (updG (updG (updG (updG (updG (updG (updG (updG g 100 (.long 0)) 101 (.int (-1))) 90 (.int (nI 0))) 99 (.int (-1))) 98 (.int (nI 0))) 99 (.int (nI 0))) 90 (.int (nI 1))) 89 (.int (nI 1))) 91 (.int (nI 0))) 42 (.int (nI 0))) 43 (.int (nI 0))) 90 = .int (nI 1) from rfl))) dX12_resolve_123 ?_
    refine lv_icmp_ge (tgt := 164) hx hb dX12_resolve_126 (by decide) (fun c_1096 => absurd c_1096 (by decide)) (fun c_1096 => ?_)
    refine lv_aload_n hx hb dX12_resolve_129 rfl (lv_at hl 3 rfl) ?_
    refine va_get (D := E.1) (ci := 12) (v := .ref (r 95)) (C := RX12) (T := TX12) (N := 116) hx hb hts iX12 hown hK hP 9 rfl rfl 95 (by decide) (hts _ wdF_RX12_184) (fun _ h9 => h9) ((mfs_get _ 95 (by decide)).trans (congrArg some (show (updG (updG (updG (updG (updG (updG (updG (updG (updG (updG (updG g 100 (.long 0)) 101 (.int (-1))) 90 (.int (nI 0))) 99 (.int (-1))) 98 (.int (nI 0))) 99 (.int (nI 0))) 90 (.int (nI 1))) 89 (.int (nI 1))) 91 (.int (nI 0))) 42 (.int (nI 0))) 43 (.int (nI 0))) 95 = .ref (r 95) from (hR 95 rfl)))) dX12_resolve_130 ?_
    refine lv_iload hx hb dX12_resolve_133 (lv_at hl 0 rfl) ?_
    refine lv_iload hx hb dX12_resolve_135 (lv_at hl 0 rfl) ?_
    refine lv_aload_n hx hb dX12_resolve_137 rfl (lv_at hl 3 rfl) ?_
    refine va_get (D := E.1) (ci := 12) (v := .int (nI 0)) (C := RX12) (T := TX12) (N := 116) hx hb hts iX12 hown hK hP 9 rfl rfl 99 (by decide) (hts _ wdF_RX12_193) (fun _ h9 => h9) ((mfs_get _ 99 (by decide)).trans (congrArg some (show (updG (updG (updG (updG (updG (updG (updG (updG (updG (updG (updG g 100 (.long 0)) 101 (.int (-1))) 90 (.int (nI 0))) 99 (.int (-1))) 98 (.int (nI 0))) 99 (.int (nI 0))) 90 (.int (nI 1))) 89 (.int (nI 1))) 91 (.int (nI 0))) 42 (.int (nI 0))) 43 (.int (nI 0))) 99 = .int (nI 0) from rfl))) dX12_resolve_138 ?_
    refine lv_icmp_ne (tgt := 148) hx hb dX12_resolve_141 (by decide) (fun c_1097 => absurd (by decide) c_1097) (fun c_1097 => ?_)
    refine lv_lconst (v := 1) hx hb dX12_resolve_144 (by decide) ?_
    refine lv_goto (tgt := 149) hx hb dX12_resolve_145 (by decide) ?_
    refine va_last hx hb hK hP hD hS 2 2 rfl rfl (vp_in_nI (by decide) (by decide)) dX12_resolve_149 (fun H locs hP hD hS => ?_)
    have hP : va_P E.1 vwCl [((r 92), aI E 32000 (upd (upd (upd (upd (upd (upd (upd (upd (fun _ => 0) 0 (((gx 0) ||| ((gy 0) <<< ((nI 8) &&& 31))) ||| ((gw 0) <<< ((nI 16) &&& 31)))) 1 (((gx 1) ||| ((gy 1) <<< ((nI 8) &&& 31))) ||| ((gw 1) <<< ((nI 16) &&& 31)))) 2 (((gx 2) ||| ((gy 2) <<< ((nI 8) &&& 31))) ||| ((gw 2) <<< ((nI 16) &&& 31)))) 3 (((gx 3) ||| ((gy 3) <<< ((nI 8) &&& 31))) ||| ((gw 3) <<< ((nI 16) &&& 31)))) 4 (((gx 4) ||| ((gy 4) <<< ((nI 8) &&& 31))) ||| ((gw 4) <<< ((nI 16) &&& 31)))) 5 (((gx 5) ||| ((gy 5) <<< ((nI 8) &&& 31))) ||| ((gw 5) <<< ((nI 16) &&& 31)))) 6 (((gx 6) ||| ((gy 6) <<< ((nI 8) &&& 31))) ||| ((gw 6) <<< ((nI 16) &&& 31)))) 7 (((gx 7) ||| ((gy 7) <<< ((nI 8) &&& 31))) ||| ((gw 7) <<< ((nI 16) &&& 31))))), ((r 93), aI E 2000 (upd (fun _ => 0) 0 (nI 0))), ((r 95), aJ E 2000 (vp_updL (fun _ => 0) (nI 0).toNatClampNeg 1)), ((r 96), aI E 2000 (fun _ => 0)), ((r 97), aI E 32 (fun _ => 0)), ((r 30), aI E 32 (fun _ => 0)), ((r 47), aI E 64 bx), ((r 48), aI E 64 by_), ((r 49), aI E 64 bw), (h0, ob 12 (mfs (updG (updG (updG (updG (updG (updG (updG (updG (updG (updG (updG g 100 (.long 0)) 101 (.int (-1))) 90 (.int (nI 0))) 99 (.int (-1))) 98 (.int (nI 0))) 99 (.int (nI 0))) 90 (.int (nI 1))) 89 (.int (nI 1))) 91 (.int (nI 0))) 42 (.int (nI 0))) 43 (.int (nI 0))))), ((r 38), aI E 64 x2), ((r 39), aI E 64 y2), ((r 40), aI E 64 w2), ((r 41), aI E 64 t2), ((r 104), aI E 256 s2)] H := hP
    have hD : va_D A [((r 92), aI E 32000 (upd (upd (upd (upd (upd (upd (upd (upd (fun _ => 0) 0 (((gx 0) ||| ((gy 0) <<< ((nI 8) &&& 31))) ||| ((gw 0) <<< ((nI 16) &&& 31)))) 1 (((gx 1) ||| ((gy 1) <<< ((nI 8) &&& 31))) ||| ((gw 1) <<< ((nI 16) &&& 31)))) 2 (((gx 2) ||| ((gy 2) <<< ((nI 8) &&& 31))) ||| ((gw 2) <<< ((nI 16) &&& 31)))) 3 (((gx 3) ||| ((gy 3) <<< ((nI 8) &&& 31))) ||| ((gw 3) <<< ((nI 16) &&& 31)))) 4 (((gx 4) ||| ((gy 4) <<< ((nI 8) &&& 31))) ||| ((gw 4) <<< ((nI 16) &&& 31)))) 5 (((gx 5) ||| ((gy 5) <<< ((nI 8) &&& 31))) ||| ((gw 5) <<< ((nI 16) &&& 31)))) 6 (((gx 6) ||| ((gy 6) <<< ((nI 8) &&& 31))) ||| ((gw 6) <<< ((nI 16) &&& 31)))) 7 (((gx 7) ||| ((gy 7) <<< ((nI 8) &&& 31))) ||| ((gw 7) <<< ((nI 16) &&& 31))))), ((r 93), aI E 2000 (upd (fun _ => 0) 0 (nI 0))), ((r 95), aJ E 2000 (vp_updL (fun _ => 0) (nI 0).toNatClampNeg 1)), ((r 96), aI E 2000 (fun _ => 0)), ((r 97), aI E 32 (fun _ => 0)), ((r 30), aI E 32 (fun _ => 0)), ((r 47), aI E 64 bx), ((r 48), aI E 64 by_), ((r 49), aI E 64 bw), (h0, ob 12 (mfs (updG (updG (updG (updG (updG (updG (updG (updG (updG (updG (updG g 100 (.long 0)) 101 (.int (-1))) 90 (.int (nI 0))) 99 (.int (-1))) 98 (.int (nI 0))) 99 (.int (nI 0))) 90 (.int (nI 1))) 89 (.int (nI 1))) 91 (.int (nI 0))) 42 (.int (nI 0))) 43 (.int (nI 0))))), ((r 38), aI E 64 x2), ((r 39), aI E 64 y2), ((r 40), aI E 64 w2), ((r 41), aI E 64 t2), ((r 104), aI E 256 s2)] := hD
    rw [nI_clamp (n := 0) (by decide)] at hP hD
    refine lv_aload_n hx hb dX12_resolve_150 rfl (lv_at hl 3 rfl) ?_
    refine va_get (D := E.1) (ci := 12) (v := .ref (r 96)) (C := RX12) (T := TX12) (N := 116) hx hb hts iX12 hown hK hP 9 rfl rfl 96 (by decide) (hts _ wdF_RX12_187) (fun _ h9 => h9) ((mfs_get _ 96 (by decide)).trans (congrArg some (show (updG (updG (updG (updG (updG (updG (updG (updG (updG (updG (updG g 100 (.long 0)) 101 (.int (-1))) 90 (.int (nI 0))) 99 (.int (-1))) 98 (.int (nI 0))) 99 (.int (nI 0))) 90 (.int (nI 1))) 89 (.int (nI 1))) 91 (.int (nI 0))) 42 (.int (nI 0))) 43 (.int (nI 0))) 96 = .ref (r 96) from (hR 96 rfl)))) dX12_resolve_151 ?_
    refine lv_iload hx hb dX12_resolve_154 (lv_at hl 0 rfl) ?_
    refine lv_iconst (v := nI 0) hx hb dX12_resolve_156 (by decide) ?_
    refine va_iast hx hb hK hP hD hS 3 1 rfl rfl (vp_in_nI (by decide) (by decide)) dX12_resolve_157 (fun H locs hP hD hS => ?_)
    have hP : va_P E.1 vwCl [((r 92), aI E 32000 (upd (upd (upd (upd (upd (upd (upd (upd (fun _ => 0) 0 (((gx 0) ||| ((gy 0) <<< ((nI 8) &&& 31))) ||| ((gw 0) <<< ((nI 16) &&& 31)))) 1 (((gx 1) ||| ((gy 1) <<< ((nI 8) &&& 31))) ||| ((gw 1) <<< ((nI 16) &&& 31)))) 2 (((gx 2) ||| ((gy 2) <<< ((nI 8) &&& 31))) ||| ((gw 2) <<< ((nI 16) &&& 31)))) 3 (((gx 3) ||| ((gy 3) <<< ((nI 8) &&& 31))) ||| ((gw 3) <<< ((nI 16) &&& 31)))) 4 (((gx 4) ||| ((gy 4) <<< ((nI 8) &&& 31))) ||| ((gw 4) <<< ((nI 16) &&& 31)))) 5 (((gx 5) ||| ((gy 5) <<< ((nI 8) &&& 31))) ||| ((gw 5) <<< ((nI 16) &&& 31)))) 6 (((gx 6) ||| ((gy 6) <<< ((nI 8) &&& 31))) ||| ((gw 6) <<< ((nI 16) &&& 31)))) 7 (((gx 7) ||| ((gy 7) <<< ((nI 8) &&& 31))) ||| ((gw 7) <<< ((nI 16) &&& 31))))), ((r 93), aI E 2000 (upd (fun _ => 0) 0 (nI 0))), ((r 95), aJ E 2000 (vp_updL (fun _ => 0) 0 1)), ((r 96), aI E 2000 (upd (fun _ => 0) (nI 0).toNatClampNeg (nI 0))), ((r 97), aI E 32 (fun _ => 0)), ((r 30), aI E 32 (fun _ => 0)), ((r 47), aI E 64 bx), ((r 48), aI E 64 by_), ((r 49), aI E 64 bw), (h0, ob 12 (mfs (updG (updG (updG (updG (updG (updG (updG (updG (updG (updG (updG g 100 (.long 0)) 101 (.int (-1))) 90 (.int (nI 0))) 99 (.int (-1))) 98 (.int (nI 0))) 99 (.int (nI 0))) 90 (.int (nI 1))) 89 (.int (nI 1))) 91 (.int (nI 0))) 42 (.int (nI 0))) 43 (.int (nI 0))))), ((r 38), aI E 64 x2), ((r 39), aI E 64 y2), ((r 40), aI E 64 w2), ((r 41), aI E 64 t2), ((r 104), aI E 256 s2)] H := hP
    have hD : va_D A [((r 92), aI E 32000 (upd (upd (upd (upd (upd (upd (upd (upd (fun _ => 0) 0 (((gx 0) ||| ((gy 0) <<< ((nI 8) &&& 31))) ||| ((gw 0) <<< ((nI 16) &&& 31)))) 1 (((gx 1) ||| ((gy 1) <<< ((nI 8) &&& 31))) ||| ((gw 1) <<< ((nI 16) &&& 31)))) 2 (((gx 2) ||| ((gy 2) <<< ((nI 8) &&& 31))) ||| ((gw 2) <<< ((nI 16) &&& 31)))) 3 (((gx 3) ||| ((gy 3) <<< ((nI 8) &&& 31))) ||| ((gw 3) <<< ((nI 16) &&& 31)))) 4 (((gx 4) ||| ((gy 4) <<< ((nI 8) &&& 31))) ||| ((gw 4) <<< ((nI 16) &&& 31)))) 5 (((gx 5) ||| ((gy 5) <<< ((nI 8) &&& 31))) ||| ((gw 5) <<< ((nI 16) &&& 31)))) 6 (((gx 6) ||| ((gy 6) <<< ((nI 8) &&& 31))) ||| ((gw 6) <<< ((nI 16) &&& 31)))) 7 (((gx 7) ||| ((gy 7) <<< ((nI 8) &&& 31))) ||| ((gw 7) <<< ((nI 16) &&& 31))))), ((r 93), aI E 2000 (upd (fun _ => 0) 0 (nI 0))), ((r 95), aJ E 2000 (vp_updL (fun _ => 0) 0 1)), ((r 96), aI E 2000 (upd (fun _ => 0) (nI 0).toNatClampNeg (nI 0))), ((r 97), aI E 32 (fun _ => 0)), ((r 30), aI E 32 (fun _ => 0)), ((r 47), aI E 64 bx), ((r 48), aI E 64 by_), ((r 49), aI E 64 bw), (h0, ob 12 (mfs (updG (updG (updG (updG (updG (updG (updG (updG (updG (updG (updG g 100 (.long 0)) 101 (.int (-1))) 90 (.int (nI 0))) 99 (.int (-1))) 98 (.int (nI 0))) 99 (.int (nI 0))) 90 (.int (nI 1))) 89 (.int (nI 1))) 91 (.int (nI 0))) 42 (.int (nI 0))) 43 (.int (nI 0))))), ((r 38), aI E 64 x2), ((r 39), aI E 64 y2), ((r 40), aI E 64 w2), ((r 41), aI E 64 t2), ((r 104), aI E 256 s2)] := hD
    rw [nI_clamp (n := 0) (by decide)] at hP hD
    refine lv_iinc (v := nI 1) (lv' := [(4, .int (nI 1)), (3, .int (nI 0)), (2, .int (nI 0)), (0, .ref h0), (1, .int v)]) hx hb dX12_resolve_158 hl (k := 0) rfl (by decide) (by decide) rfl (fun ls hl => ?_)
    refine lv_goto (tgt := 120) hx hb dX12_resolve_161 (by decide) ?_
    refine lv_iload hx hb dX12_resolve_120 (lv_at hl 0 rfl) ?_
    refine lv_aload_n hx hb dX12_resolve_122 rfl (lv_at hl 3 rfl) ?_
    refine va_get (D := E.1) (ci := 12) (v := .int (nI 1)) (C := RX12) (T := TX12) (N := 116) hx hb hts iX12 hown hK hP 9 rfl rfl 90 (by decide) (hts _ wdF_RX12_623) (fun _ h9 => h9) ((mfs_get _ 90 (by decide)).trans (congrArg some (show (updG (updG (updG (updG (updG (updG (updG (updG (updG (updG (updG g 100 (.long 0)) 101 (.int (-1))) 90 (.int (nI 0))) 99 (.int (-1))) 98 (.int (nI 0))) 99 (.int (nI 0))) 90 (.int (nI 1))) 89 (.int (nI 1))) 91 (.int (nI 0))) 42 (.int (nI 0))) 43 (.int (nI 0))) 90 = .int (nI 1) from rfl))) dX12_resolve_123 ?_
    refine lv_icmp_ge (tgt := 164) hx hb dX12_resolve_126 (by decide) (fun c_1098 => ?_) (fun c_1098 => absurd (by decide) c_1098)
    refine lv_aload_n hx hb dX12_resolve_164 rfl (lv_at hl 3 rfl) ?_
    refine va_get (D := E.1) (ci := 12) (v := .int (nI 0)) (C := RX12) (T := TX12) (N := 116) hx hb hts iX12 hown hK hP 9 rfl rfl 91 (by decide) (hts _ wdF_RX12_656) (fun _ h9 => h9) ((mfs_get _ 91 (by decide)).trans (congrArg some (show (updG (updG (updG (updG (updG (updG (updG (updG (updG (updG (updG g 100 (.long 0)) 101 (.int (-1))) 90 (.int (nI 0))) 99 (.int (-1))) 98 (.int (nI 0))) 99 (.int (nI 0))) 90 (.int (nI 1))) 89 (.int (nI 1))) 91 (.int (nI 0))) 42 (.int (nI 0))) 43 (.int (nI 0))) 91 = .int (nI 0) from rfl))) dX12_resolve_165 ?_
    refine lv_iconst (v := nI 1) hx hb dX12_resolve_168 (by decide) ?_
    refine lv_isub hx hb dX12_resolve_169 ?_
    rw [show ((nI 0) - (nI 1) : Int32) = (-1) from by decide]
    refine lv_istore (lv' := [(4, .int (-1)), (3, .int (nI 0)), (2, .int (nI 0)), (0, .ref h0), (1, .int v)]) hx hb dX12_resolve_170 hl (by decide) rfl (fun ls hl => ?_)
    refine lv_iload hx hb dX12_resolve_172 (lv_at hl 0 rfl) ?_
    refine lv_if_lt (tgt := 219) hx hb dX12_resolve_174 (by decide) (fun c_1099 => ?_) (fun c_1099 => absurd (by decide) c_1099)
    refine lv_aload_n hx hb dX12_resolve_219 rfl (lv_at hl 3 rfl) ?_
    refine lv_aload_n hx hb dX12_resolve_220 rfl (lv_at hl 3 rfl) ?_
    refine va_get (D := E.1) (ci := 12) (v := .ref (r 95)) (C := RX12) (T := TX12) (N := 116) hx hb hts iX12 hown hK hP 9 rfl rfl 95 (by decide) (hts _ wdF_RX12_184) (fun _ h9 => h9) ((mfs_get _ 95 (by decide)).trans (congrArg some (show (updG (updG (updG (updG (updG (updG (updG (updG (updG (updG (updG g 100 (.long 0)) 101 (.int (-1))) 90 (.int (nI 0))) 99 (.int (-1))) 98 (.int (nI 0))) 99 (.int (nI 0))) 90 (.int (nI 1))) 89 (.int (nI 1))) 91 (.int (nI 0))) 42 (.int (nI 0))) 43 (.int (nI 0))) 95 = .ref (r 95) from (hR 95 rfl)))) dX12_resolve_221 ?_
    refine lv_iconst (v := nI 0) hx hb dX12_resolve_224 (by decide) ?_
    refine va_lald hx hb hK hP 2 2 rfl rfl (vp_in_nI (by decide) (by decide)) dX12_resolve_225 ?_
    rw [nI_clamp (n := 0) (by decide)]
    rw [show ((vp_updL (fun _ => 0) 0 1) 0 : Int64) = 1 from rfl]
    refine va_put (D := E.1) (ci := 12) (v := .long 1) (ty := .long) (C := RX12) (T := TX12) (N := 116) hx hb hts iX12 tyX12 tyX12_ok nmX12 hown hK hP hD hS 9 rfl rfl 100 (by decide) (hts _ wdF_RX12_248) (fun _ h9 => h9) rfl (by decide +kernel) rfl rfl (by rw [mfs_len]; decide) dX12_resolve_226 (fun H locs hP hD hS => ?_)
    have hP : va_P E.1 vwCl [((r 92), aI E 32000 (upd (upd (upd (upd (upd (upd (upd (upd (fun _ => 0) 0 (((gx 0) ||| ((gy 0) <<< ((nI 8) &&& 31))) ||| ((gw 0) <<< ((nI 16) &&& 31)))) 1 (((gx 1) ||| ((gy 1) <<< ((nI 8) &&& 31))) ||| ((gw 1) <<< ((nI 16) &&& 31)))) 2 (((gx 2) ||| ((gy 2) <<< ((nI 8) &&& 31))) ||| ((gw 2) <<< ((nI 16) &&& 31)))) 3 (((gx 3) ||| ((gy 3) <<< ((nI 8) &&& 31))) ||| ((gw 3) <<< ((nI 16) &&& 31)))) 4 (((gx 4) ||| ((gy 4) <<< ((nI 8) &&& 31))) ||| ((gw 4) <<< ((nI 16) &&& 31)))) 5 (((gx 5) ||| ((gy 5) <<< ((nI 8) &&& 31))) ||| ((gw 5) <<< ((nI 16) &&& 31)))) 6 (((gx 6) ||| ((gy 6) <<< ((nI 8) &&& 31))) ||| ((gw 6) <<< ((nI 16) &&& 31)))) 7 (((gx 7) ||| ((gy 7) <<< ((nI 8) &&& 31))) ||| ((gw 7) <<< ((nI 16) &&& 31))))), ((r 93), aI E 2000 (upd (fun _ => 0) 0 (nI 0))), ((r 95), aJ E 2000 (vp_updL (fun _ => 0) 0 1)), ((r 96), aI E 2000 (upd (fun _ => 0) 0 (nI 0))), ((r 97), aI E 32 (fun _ => 0)), ((r 30), aI E 32 (fun _ => 0)), ((r 47), aI E 64 bx), ((r 48), aI E 64 by_), ((r 49), aI E 64 bw), (h0, ob 12 ((mfs (updG (updG (updG (updG (updG (updG (updG (updG (updG (updG (updG g 100 (.long 0)) 101 (.int (-1))) 90 (.int (nI 0))) 99 (.int (-1))) 98 (.int (nI 0))) 99 (.int (nI 0))) 90 (.int (nI 1))) 89 (.int (nI 1))) 91 (.int (nI 0))) 42 (.int (nI 0))) 43 (.int (nI 0)))).set 100 (.long 1))), ((r 38), aI E 64 x2), ((r 39), aI E 64 y2), ((r 40), aI E 64 w2), ((r 41), aI E 64 t2), ((r 104), aI E 256 s2)] H := hP
    have hD : va_D A [((r 92), aI E 32000 (upd (upd (upd (upd (upd (upd (upd (upd (fun _ => 0) 0 (((gx 0) ||| ((gy 0) <<< ((nI 8) &&& 31))) ||| ((gw 0) <<< ((nI 16) &&& 31)))) 1 (((gx 1) ||| ((gy 1) <<< ((nI 8) &&& 31))) ||| ((gw 1) <<< ((nI 16) &&& 31)))) 2 (((gx 2) ||| ((gy 2) <<< ((nI 8) &&& 31))) ||| ((gw 2) <<< ((nI 16) &&& 31)))) 3 (((gx 3) ||| ((gy 3) <<< ((nI 8) &&& 31))) ||| ((gw 3) <<< ((nI 16) &&& 31)))) 4 (((gx 4) ||| ((gy 4) <<< ((nI 8) &&& 31))) ||| ((gw 4) <<< ((nI 16) &&& 31)))) 5 (((gx 5) ||| ((gy 5) <<< ((nI 8) &&& 31))) ||| ((gw 5) <<< ((nI 16) &&& 31)))) 6 (((gx 6) ||| ((gy 6) <<< ((nI 8) &&& 31))) ||| ((gw 6) <<< ((nI 16) &&& 31)))) 7 (((gx 7) ||| ((gy 7) <<< ((nI 8) &&& 31))) ||| ((gw 7) <<< ((nI 16) &&& 31))))), ((r 93), aI E 2000 (upd (fun _ => 0) 0 (nI 0))), ((r 95), aJ E 2000 (vp_updL (fun _ => 0) 0 1)), ((r 96), aI E 2000 (upd (fun _ => 0) 0 (nI 0))), ((r 97), aI E 32 (fun _ => 0)), ((r 30), aI E 32 (fun _ => 0)), ((r 47), aI E 64 bx), ((r 48), aI E 64 by_), ((r 49), aI E 64 bw), (h0, ob 12 ((mfs (updG (updG (updG (updG (updG (updG (updG (updG (updG (updG (updG g 100 (.long 0)) 101 (.int (-1))) 90 (.int (nI 0))) 99 (.int (-1))) 98 (.int (nI 0))) 99 (.int (nI 0))) 90 (.int (nI 1))) 89 (.int (nI 1))) 91 (.int (nI 0))) 42 (.int (nI 0))) 43 (.int (nI 0)))).set 100 (.long 1))), ((r 38), aI E 64 x2), ((r 39), aI E 64 y2), ((r 40), aI E 64 w2), ((r 41), aI E 64 t2), ((r 104), aI E 256 s2)] := hD
    rw [mfs_set _ 100 _ (by decide)] at hP hD
    refine lv_aload_n hx hb dX12_resolve_229 rfl (lv_at hl 3 rfl) ?_
    refine va_get (D := E.1) (ci := 12) (v := .int (nI 0)) (C := RX12) (T := TX12) (N := 116) hx hb hts iX12 hown hK hP 9 rfl rfl 91 (by decide) (hts _ wdF_RX12_656) (fun _ h9 => h9) ((mfs_get _ 91 (by decide)).trans (congrArg some (show (updG (updG (updG (updG (updG (updG (updG (updG (updG (updG (updG (updG g 100 (.long 0)) 101 (.int (-1))) 90 (.int (nI 0))) 99 (.int (-1))) 98 (.int (nI 0))) 99 (.int (nI 0))) 90 (.int (nI 1))) 89 (.int (nI 1))) 91 (.int (nI 0))) 42 (.int (nI 0))) 43 (.int (nI 0))) 100 (.long 1)) 91 = .int (nI 0) from rfl))) dX12_resolve_230 ?_
    exact cI_ret F hP hD hS hK () (if_neg (fun h => h.elim (fun q => absurd q (Int32.not_lt.mpr c2.1)) (fun q => absurd q (Int32.not_lt.mpr c2.2)))).symm [] rfl rfl dX12_resolve_233 (by decide) (by decide)
theorem yy_X12_resolve : cY yX12_resolve cX12_resolve 6 (some .int) 1 := ⟨wdK_X12_resolve, wdZ_RX12, by decide +kernel⟩
theorem yi_X12_resolve : cYi yX12_resolve := ⟨wdN_X12_resolve, wdS_X12_resolve⟩
