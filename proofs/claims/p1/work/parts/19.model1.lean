theorem dX12_in_0 : decode cX12_in 0 = .ok (.iload_n 0, 1) := by decide +kernel
theorem dX12_in_1 : decode cX12_in 1 = .ok (.iload_n 1, 1) := by decide +kernel
theorem dX12_in_2 : decode cX12_in 2 = .ok (.if_icmp .lt 12, 3) := by decide +kernel
theorem dX12_in_5 : decode cX12_in 5 = .ok (.iload_n 0, 1) := by decide +kernel
theorem dX12_in_6 : decode cX12_in 6 = .ok (.iload_n 2, 1) := by decide +kernel
theorem dX12_in_7 : decode cX12_in 7 = .ok (.if_icmp .gt 7, 3) := by decide +kernel
theorem dX12_in_10 : decode cX12_in 10 = .ok (.iconst 1, 1) := by decide +kernel
theorem dX12_in_11 : decode cX12_in 11 = .ok (.goto 4, 3) := by decide +kernel
theorem dX12_in_14 : decode cX12_in 14 = .ok (.iconst 0, 1) := by decide +kernel
theorem dX12_in_15 : decode cX12_in 15 = .ok (.ireturn, 1) := by decide +kernel
abbrev rm_c_X12_in : Room := { frames := 0, cells := 0, slots := 0, locals := 0 }
set_option maxHeartbeats 4000000 in
set_option maxRecDepth 100000 in
theorem c_X12_in (l : Launch) (E : cE) (v : Int32) (lo : Int32) (hi : Int32) : cM l E yX12_in cX12_in 3 (some .boolean) rm_c_X12_in [.int v, .int lo, .int hi] [] (qI E (fun (r : Int32) (_u : Unit) => r = if lo ≤ v ∧ v ≤ hi then 1 else 0) (fun _ => [])) := by
  refine cM_of (by decide) (Nat.le_of_ble_eq_true rfl) ?_
  intro p e s m below meth c ls A F hA hS hP hD hK hZ hl
  obtain ⟨hx, hb, hr, hml, hown, hts, hlk, hin⟩ := id F
  have hown : s.vm.findClass RX12 = some m.cls := hown
  have hl : lv_has ls 3 [(0, .int v), (1, .int lo), (2, .int hi)] := hl
  refine lv_iload_n hx hb dX12_in_0 rfl (lv_at hl 0 rfl) ?_
  refine lv_iload_n hx hb dX12_in_1 rfl (lv_at hl 1 rfl) ?_
  refine lv_icmp_lt (tgt := 14) hx hb dX12_in_2 (by decide) (fun c1 => ?_) (fun c1 => ?_)
  · refine lv_iconst (v := nI 0) hx hb dX12_in_14 (by decide) ?_
    exact cB_ret F hP hD hS hK (by decide) () (if_neg (fun h => absurd c1 (Int32.not_lt.mpr h.1))).symm [] rfl rfl dX12_in_15 (by decide) (by decide)
  · refine lv_iload_n hx hb dX12_in_5 rfl (lv_at hl 0 rfl) ?_
    refine lv_iload_n hx hb dX12_in_6 rfl (lv_at hl 2 rfl) ?_
    refine lv_icmp_gt (tgt := 14) hx hb dX12_in_7 (by decide) (fun c2 => ?_) (fun c2 => ?_)
    · refine lv_iconst (v := nI 0) hx hb dX12_in_14 (by decide) ?_
      exact cB_ret F hP hD hS hK (by decide) () (if_neg (fun h => absurd c2 (Int32.not_lt.mpr h.2))).symm [] rfl rfl dX12_in_15 (by decide) (by decide)
    · refine lv_iconst (v := nI 1) hx hb dX12_in_10 (by decide) ?_
      refine lv_goto (tgt := 15) hx hb dX12_in_11 (by decide) ?_
      exact cB_ret F hP hD hS hK (by decide) () (if_pos ⟨Int32.not_lt.mp c1, Int32.not_lt.mp c2⟩).symm [] rfl rfl dX12_in_15 (by decide) (by decide)
theorem yy_X12_in : cY yX12_in cX12_in 3 (some .boolean) 3 := ⟨wdK_X12_in, wdZ_RX12, by decide +kernel⟩
theorem dX12_stands_0 : decode cX12_stands 0 = .ok (.aload_n 0, 1) := by decide +kernel
theorem dX12_stands_1 : decode cX12_stands 1 = .ok (.getfield 71, 3) := by decide +kernel
theorem dX12_stands_4 : decode cX12_stands 4 = .ok (.iload_n 1, 1) := by decide +kernel
theorem dX12_stands_5 : decode cX12_stands 5 = .ok (.iload_n 2, 1) := by decide +kernel
theorem dX12_stands_6 : decode cX12_stands 6 = .ok (.iastore, 1) := by decide +kernel
theorem dX12_stands_7 : decode cX12_stands 7 = .ok (.aload_n 0, 1) := by decide +kernel
theorem dX12_stands_8 : decode cX12_stands 8 = .ok (.getfield 74, 3) := by decide +kernel
theorem dX12_stands_11 : decode cX12_stands 11 = .ok (.iload_n 1, 1) := by decide +kernel
theorem dX12_stands_12 : decode cX12_stands 12 = .ok (.iload_n 3, 1) := by decide +kernel
theorem dX12_stands_13 : decode cX12_stands 13 = .ok (.iastore, 1) := by decide +kernel
theorem dX12_stands_14 : decode cX12_stands 14 = .ok (.aload_n 0, 1) := by decide +kernel
theorem dX12_stands_15 : decode cX12_stands 15 = .ok (.getfield 77, 3) := by decide +kernel
theorem dX12_stands_18 : decode cX12_stands 18 = .ok (.iload_n 1, 1) := by decide +kernel
theorem dX12_stands_19 : decode cX12_stands 19 = .ok (.iload 4, 2) := by decide +kernel
theorem dX12_stands_21 : decode cX12_stands 21 = .ok (.iastore, 1) := by decide +kernel
theorem dX12_stands_22 : decode cX12_stands 22 = .ok (.aload_n 0, 1) := by decide +kernel
theorem dX12_stands_23 : decode cX12_stands 23 = .ok (.getfield 80, 3) := by decide +kernel
theorem dX12_stands_26 : decode cX12_stands 26 = .ok (.iload_n 1, 1) := by decide +kernel
theorem dX12_stands_27 : decode cX12_stands 27 = .ok (.iconst 0, 1) := by decide +kernel
theorem dX12_stands_28 : decode cX12_stands 28 = .ok (.iastore, 1) := by decide +kernel
theorem dX12_stands_29 : decode cX12_stands 29 = .ok (.return_, 1) := by decide +kernel
abbrev rm_c_X12_stands : Room := { frames := 0, cells := 0, slots := 0, locals := 0 }
set_option maxHeartbeats 4000000 in
set_option maxRecDepth 100000 in
theorem c_X12_stands (l : Launch) (E : cE) (h0 : Nat) (r : Nat → Nat) (g : Nat → Value) (mx : Nat → Int32) (my : Nat → Int32) (mw : Nat → Int32) (mt : Nat → Int32) (d : Nat) (px : Int32) (py : Int32) (pf : Int32) (hR : mOK r g) (hd : d < 64) : cM l E yX12_stands cX12_stands 5 none rm_c_X12_stands [.ref h0, .int (nI d), .int px, .int py, .int pf] [(h0, ob 12 (mfs g)), ((r 38), aI E 64 mx), ((r 39), aI E 64 my), ((r 40), aI E 64 mw), ((r 41), aI E 64 mt)] (qV E (fun (_u : Unit) => True) (fun _ => [(h0, ob 12 (mfs g)), ((r 38), aI E 64 (upd mx d px)), ((r 39), aI E 64 (upd my d py)), ((r 40), aI E 64 (upd mw d pf)), ((r 41), aI E 64 (upd mt d (nI 0)))])) := by
  refine cM_of (by decide) (Nat.le_of_ble_eq_true rfl) ?_
  intro p e s m below meth c ls A F hA hS hP hD hK hZ hl
  obtain ⟨hx, hb, hr, hml, hown, hts, hlk, hin⟩ := id F
  have hown : s.vm.findClass RX12 = some m.cls := hown
  have hl : lv_has ls 5 [(0, .ref h0), (1, .int (nI d)), (2, .int px), (3, .int py), (4, .int pf)] := hl
  refine lv_aload_n hx hb dX12_stands_0 rfl (lv_at hl 0 rfl) ?_
  refine va_get (D := E.1) (ci := 12) (v := .ref (r 38)) (C := RX12) (T := TX12) (N := 116) hx hb hts iX12 hown hK hP 0 rfl rfl 38 (by decide) (hts _ wdF_RX12_71) (fun _ h9 => h9) ((mfs_get _ 38 (by decide)).trans (congrArg some (show (g) 38 = .ref (r 38) from (hR 38 rfl)))) dX12_stands_1 ?_
  refine lv_iload_n hx hb dX12_stands_4 rfl (lv_at hl 1 rfl) ?_
  refine lv_iload_n hx hb dX12_stands_5 rfl (lv_at hl 2 rfl) ?_
  refine va_iast hx hb hK hP hD hS 1 1 rfl rfl (vp_in_nI (by omega) (by decide)) dX12_stands_6 (fun H locs hP hD hS => ?_)
  have hP : va_P E.1 vwCl [(h0, ob 12 (mfs g)), ((r 38), aI E 64 (upd mx (nI d).toNatClampNeg px)), ((r 39), aI E 64 my), ((r 40), aI E 64 mw), ((r 41), aI E 64 mt)] H := hP
  have hD : va_D A [(h0, ob 12 (mfs g)), ((r 38), aI E 64 (upd mx (nI d).toNatClampNeg px)), ((r 39), aI E 64 my), ((r 40), aI E 64 mw), ((r 41), aI E 64 mt)] := hD
  rw [nI_clamp (n := d) (by omega)] at hP hD
  refine lv_aload_n hx hb dX12_stands_7 rfl (lv_at hl 0 rfl) ?_
  refine va_get (D := E.1) (ci := 12) (v := .ref (r 39)) (C := RX12) (T := TX12) (N := 116) hx hb hts iX12 hown hK hP 0 rfl rfl 39 (by decide) (hts _ wdF_RX12_74) (fun _ h9 => h9) ((mfs_get _ 39 (by decide)).trans (congrArg some (show (g) 39 = .ref (r 39) from (hR 39 rfl)))) dX12_stands_8 ?_
  refine lv_iload_n hx hb dX12_stands_11 rfl (lv_at hl 1 rfl) ?_
  refine lv_iload_n hx hb dX12_stands_12 rfl (lv_at hl 3 rfl) ?_
  refine va_iast hx hb hK hP hD hS 2 1 rfl rfl (vp_in_nI (by omega) (by decide)) dX12_stands_13 (fun H locs hP hD hS => ?_)
  have hP : va_P E.1 vwCl [(h0, ob 12 (mfs g)), ((r 38), aI E 64 (upd mx d px)), ((r 39), aI E 64 (upd my (nI d).toNatClampNeg py)), ((r 40), aI E 64 mw), ((r 41), aI E 64 mt)] H := hP
  have hD : va_D A [(h0, ob 12 (mfs g)), ((r 38), aI E 64 (upd mx d px)), ((r 39), aI E 64 (upd my (nI d).toNatClampNeg py)), ((r 40), aI E 64 mw), ((r 41), aI E 64 mt)] := hD
  rw [nI_clamp (n := d) (by omega)] at hP hD
  refine lv_aload_n hx hb dX12_stands_14 rfl (lv_at hl 0 rfl) ?_
  refine va_get (D := E.1) (ci := 12) (v := .ref (r 40)) (C := RX12) (T := TX12) (N := 116) hx hb hts iX12 hown hK hP 0 rfl rfl 40 (by decide) (hts _ wdF_RX12_77) (fun _ h9 => h9) ((mfs_get _ 40 (by decide)).trans (congrArg some (show (g) 40 = .ref (r 40) from (hR 40 rfl)))) dX12_stands_15 ?_
  refine lv_iload_n hx hb dX12_stands_18 rfl (lv_at hl 1 rfl) ?_
  refine lv_iload hx hb dX12_stands_19 (lv_at hl 4 rfl) ?_
  refine va_iast hx hb hK hP hD hS 3 1 rfl rfl (vp_in_nI (by omega) (by decide)) dX12_stands_21 (fun H locs hP hD hS => ?_)
  have hP : va_P E.1 vwCl [(h0, ob 12 (mfs g)), ((r 38), aI E 64 (upd mx d px)), ((r 39), aI E 64 (upd my d py)), ((r 40), aI E 64 (upd mw (nI d).toNatClampNeg pf)), ((r 41), aI E 64 mt)] H := hP
  have hD : va_D A [(h0, ob 12 (mfs g)), ((r 38), aI E 64 (upd mx d px)), ((r 39), aI E 64 (upd my d py)), ((r 40), aI E 64 (upd mw (nI d).toNatClampNeg pf)), ((r 41), aI E 64 mt)] := hD
  rw [nI_clamp (n := d) (by omega)] at hP hD
  refine lv_aload_n hx hb dX12_stands_22 rfl (lv_at hl 0 rfl) ?_
  refine va_get (D := E.1) (ci := 12) (v := .ref (r 41)) (C := RX12) (T := TX12) (N := 116) hx hb hts iX12 hown hK hP 0 rfl rfl 41 (by decide) (hts _ wdF_RX12_80) (fun _ h9 => h9) ((mfs_get _ 41 (by decide)).trans (congrArg some (show (g) 41 = .ref (r 41) from (hR 41 rfl)))) dX12_stands_23 ?_
  refine lv_iload_n hx hb dX12_stands_26 rfl (lv_at hl 1 rfl) ?_
  refine lv_iconst (v := nI 0) hx hb dX12_stands_27 (by decide) ?_
  refine va_iast hx hb hK hP hD hS 4 1 rfl rfl (vp_in_nI (by omega) (by decide)) dX12_stands_28 (fun H locs hP hD hS => ?_)
  have hP : va_P E.1 vwCl [(h0, ob 12 (mfs g)), ((r 38), aI E 64 (upd mx d px)), ((r 39), aI E 64 (upd my d py)), ((r 40), aI E 64 (upd mw d pf)), ((r 41), aI E 64 (upd mt (nI d).toNatClampNeg (nI 0)))] H := hP
  have hD : va_D A [(h0, ob 12 (mfs g)), ((r 38), aI E 64 (upd mx d px)), ((r 39), aI E 64 (upd my d py)), ((r 40), aI E 64 (upd mw d pf)), ((r 41), aI E 64 (upd mt (nI d).toNatClampNeg (nI 0)))] := hD
  rw [nI_clamp (n := d) (by omega)] at hP hD
  exact cV_ret F hP hD hS hK () trivial [0, 1, 2, 3, 4] rfl rfl dX12_stands_29 (by decide) (by decide)
theorem yy_X12_stands : cY yX12_stands cX12_stands 5 none 4 := ⟨wdK_X12_stands, wdZ_RX12, by decide +kernel⟩
theorem yi_X12_stands : cYi yX12_stands := ⟨wdN_X12_stands, wdS_X12_stands⟩
theorem dX12_marks_0 : decode cX12_marks 0 = .ok (.iconst 0, 1) := by decide +kernel
theorem dX12_marks_1 : decode cX12_marks 1 = .ok (.istore_n 1, 1) := by decide +kernel
theorem dX12_marks_2 : decode cX12_marks 2 = .ok (.iload_n 1, 1) := by decide +kernel
theorem dX12_marks_3 : decode cX12_marks 3 = .ok (.aload_n 0, 1) := by decide +kernel
theorem dX12_marks_4 : decode cX12_marks 4 = .ok (.getfield 231, 3) := by decide +kernel
theorem dX12_marks_7 : decode cX12_marks 7 = .ok (.if_icmp .ge 45, 3) := by decide +kernel
theorem dX12_marks_10 : decode cX12_marks 10 = .ok (.aload_n 0, 1) := by decide +kernel
theorem dX12_marks_11 : decode cX12_marks 11 = .ok (.getfield 92, 3) := by decide +kernel
theorem dX12_marks_14 : decode cX12_marks 14 = .ok (.iload_n 1, 1) := by decide +kernel
theorem dX12_marks_15 : decode cX12_marks 15 = .ok (.aload_n 0, 1) := by decide +kernel
theorem dX12_marks_16 : decode cX12_marks 16 = .ok (.getfield 71, 3) := by decide +kernel
theorem dX12_marks_19 : decode cX12_marks 19 = .ok (.iload_n 1, 1) := by decide +kernel
theorem dX12_marks_20 : decode cX12_marks 20 = .ok (.iaload, 1) := by decide +kernel
theorem dX12_marks_21 : decode cX12_marks 21 = .ok (.iastore, 1) := by decide +kernel
theorem dX12_marks_22 : decode cX12_marks 22 = .ok (.aload_n 0, 1) := by decide +kernel
theorem dX12_marks_23 : decode cX12_marks 23 = .ok (.getfield 95, 3) := by decide +kernel
theorem dX12_marks_26 : decode cX12_marks 26 = .ok (.iload_n 1, 1) := by decide +kernel
theorem dX12_marks_27 : decode cX12_marks 27 = .ok (.aload_n 0, 1) := by decide +kernel
theorem dX12_marks_28 : decode cX12_marks 28 = .ok (.getfield 74, 3) := by decide +kernel
theorem dX12_marks_31 : decode cX12_marks 31 = .ok (.iload_n 1, 1) := by decide +kernel
theorem dX12_marks_32 : decode cX12_marks 32 = .ok (.iaload, 1) := by decide +kernel
theorem dX12_marks_33 : decode cX12_marks 33 = .ok (.iastore, 1) := by decide +kernel
theorem dX12_marks_34 : decode cX12_marks 34 = .ok (.aload_n 0, 1) := by decide +kernel
theorem dX12_marks_35 : decode cX12_marks 35 = .ok (.getfield 98, 3) := by decide +kernel
theorem dX12_marks_38 : decode cX12_marks 38 = .ok (.iload_n 1, 1) := by decide +kernel
theorem dX12_marks_39 : decode cX12_marks 39 = .ok (.aload_n 0, 1) := by decide +kernel
theorem dX12_marks_40 : decode cX12_marks 40 = .ok (.getfield 77, 3) := by decide +kernel
theorem dX12_marks_43 : decode cX12_marks 43 = .ok (.iload_n 1, 1) := by decide +kernel
theorem dX12_marks_44 : decode cX12_marks 44 = .ok (.iaload, 1) := by decide +kernel
theorem dX12_marks_45 : decode cX12_marks 45 = .ok (.iastore, 1) := by decide +kernel
theorem dX12_marks_46 : decode cX12_marks 46 = .ok (.iinc 1 1, 3) := by decide +kernel
theorem dX12_marks_49 : decode cX12_marks 49 = .ok (.goto (-47), 3) := by decide +kernel
theorem dX12_marks_52 : decode cX12_marks 52 = .ok (.return_, 1) := by decide +kernel
abbrev rm_c_X12_marks : Room := { frames := 0, cells := 0, slots := 0, locals := 0 }
set_option maxHeartbeats 4000000 in
set_option maxRecDepth 100000 in
theorem c_X12_marks (l : Launch) (E : cE) (h0 : Nat) (r : Nat → Nat) (g : Nat → Value) (mx : Nat → Int32) (my : Nat → Int32) (mw : Nat → Int32) (ax : Nat → Int32) (ay : Nat → Int32) (aw : Nat → Int32) (N : Nat) (hR : mOK r g) (hgn : g 37 = .int (nI N)) (hN : N ≤ 64) : cM l E yX12_marks cX12_marks 2 none rm_c_X12_marks [.ref h0] [(h0, ob 12 (mfs g)), ((r 38), aI E 64 mx), ((r 39), aI E 64 my), ((r 40), aI E 64 mw), ((r 47), aI E 64 ax), ((r 48), aI E 64 ay), ((r 49), aI E 64 aw)] (qV E (fun (u : (Nat → Int32) × (Nat → Int32) × (Nat → Int32)) => match u with | (bx, by_, bw) => ∀ d, d < N → bx d = mx d ∧ by_ d = my d ∧ bw d = mw d) (fun (u : (Nat → Int32) × (Nat → Int32) × (Nat → Int32)) => match u with | (bx, by_, bw) => [(h0, ob 12 (mfs g)), ((r 38), aI E 64 mx), ((r 39), aI E 64 my), ((r 40), aI E 64 mw), ((r 47), aI E 64 bx), ((r 48), aI E 64 by_), ((r 49), aI E 64 bw)])) := by
  refine cM_of (by decide) (Nat.le_of_ble_eq_true rfl) ?_
  intro p e s m below meth c ls A F hA hS hP hD hK hZ hl
  obtain ⟨hx, hb, hr, hml, hown, hts, hlk, hin⟩ := id F
  have hown : s.vm.findClass RX12 = some m.cls := hown
  have hl : lv_has ls 2 [(0, .ref h0)] := hl
  refine lv_iconst (v := nI 0) hx hb dX12_marks_0 (by decide) ?_
  refine lv_istore_n (lv' := [(1, .int (nI 0)), (0, .ref h0)]) hx hb dX12_marks_1 rfl hl (by decide) rfl (fun ls hl => ?_)
  have lp : ∀ (n_lp : Nat) (i : Nat) (bx : Nat → Int32) (by_ : Nat → Int32) (bw : Nat → Int32) (hn : N + 1 ≤ i + n_lp) (hi : i ≤ N) (hg9 : ∀ d, d < i → bx d = mx d ∧ by_ d = my d ∧ bw d = mw d) (H : Heap) (locs : List Loc) (ls : Array Slot), va_P E.1 vwCl [(h0, ob 12 (mfs g)), ((r 38), aI E 64 mx), ((r 39), aI E 64 my), ((r 40), aI E 64 mw), ((r 47), aI E 64 bx), ((r 48), aI E 64 by_), ((r 49), aI E 64 bw)] H → va_D A [(h0, ob 12 (mfs g)), ((r 38), aI E 64 mx), ((r 39), aI E 64 my), ((r 40), aI E 64 mw), ((r 47), aI E 64 bx), ((r 48), aI E 64 by_), ((r 49), aI E 64 bw)] → va_S A s.heap H locs → lv_has ls 2 [(0, .ref h0), (1, .int (nI i))] → W p l e rm_c_X12_marks s m ([.ref h0] : List Value).toArray below meth c H locs 0 0 (MQ below ((qV E (fun (u : (Nat → Int32) × (Nat → Int32) × (Nat → Int32)) => match u with | (bx, by_, bw) => ∀ d, d < N → bx d = mx d ∧ by_ d = my d ∧ bw d = mw d) (fun (u : (Nat → Int32) × (Nat → Int32) × (Nat → Int32)) => match u with | (bx, by_, bw) => [(h0, ob 12 (mfs g)), ((r 38), aI E 64 mx), ((r 39), aI E 64 my), ((r 40), aI E 64 mw), ((r 47), aI E 64 bx), ((r 48), aI E 64 by_), ((r 49), aI E 64 bw)])) A) ([.ref h0] : List Value).toArray s (rm_c_X12_marks).cells (rm_c_X12_marks).slots A) (F0 m 2 ls []) := by
    intro n_lp
    induction n_lp with
    | zero =>
      intro i bx by_ bw hn hi hg9
      exfalso; omega
    | succ n_lp ih_lp =>
      intro i bx by_ bw hn hi hg9 H locs ls hP hD hS hl
      refine lv_iload_n hx hb dX12_marks_2 rfl (lv_at hl 1 rfl) ?_
      refine lv_aload_n hx hb dX12_marks_3 rfl (lv_at hl 0 rfl) ?_
      refine va_get (D := E.1) (ci := 12) (v := .int (nI N)) (C := RX12) (T := TX12) (N := 116) hx hb hts iX12 hown hK hP 0 rfl rfl 37 (by decide) (hts _ wdF_RX12_231) (fun _ h9 => h9) ((mfs_get _ 37 (by decide)).trans (congrArg some (show (g) 37 = .int (nI N) from hgn))) dX12_marks_4 ?_
      refine lv_icmp_ge (tgt := 52) hx hb dX12_marks_7 (by decide) (fun c1 => ?_) (fun c1 => ?_)
      · have c2 : N ≤ i := (nI_leI (by omega) (by omega)).mp c1
        exact cV_ret F hP hD hS hK (bx, by_, bw) (fun d hd => hg9 d (by omega)) [0, 1, 2, 3, 4, 5, 6] rfl rfl dX12_marks_52 (by decide) (by decide)
      · have c2 : i < N := Nat.lt_of_not_le (fun h => c1 (nI_le h (by omega)))
        refine lv_aload_n hx hb dX12_marks_10 rfl (lv_at hl 0 rfl) ?_
        refine va_get (D := E.1) (ci := 12) (v := .ref (r 47)) (C := RX12) (T := TX12) (N := 116) hx hb hts iX12 hown hK hP 0 rfl rfl 47 (by decide) (hts _ wdF_RX12_92) (fun _ h9 => h9) ((mfs_get _ 47 (by decide)).trans (congrArg some (show (g) 47 = .ref (r 47) from (hR 47 rfl)))) dX12_marks_11 ?_
        refine lv_iload_n hx hb dX12_marks_14 rfl (lv_at hl 1 rfl) ?_
        refine lv_aload_n hx hb dX12_marks_15 rfl (lv_at hl 0 rfl) ?_
        refine va_get (D := E.1) (ci := 12) (v := .ref (r 38)) (C := RX12) (T := TX12) (N := 116) hx hb hts iX12 hown hK hP 0 rfl rfl 38 (by decide) (hts _ wdF_RX12_71) (fun _ h9 => h9) ((mfs_get _ 38 (by decide)).trans (congrArg some (show (g) 38 = .ref (r 38) from (hR 38 rfl)))) dX12_marks_16 ?_
        refine lv_iload_n hx hb dX12_marks_19 rfl (lv_at hl 1 rfl) ?_
        refine va_iald hx hb hK hP 1 1 rfl rfl (vp_in_nI (by omega) (by decide)) dX12_marks_20 ?_
        rw [nI_clamp (n := i) (by omega)]
        refine va_iast hx hb hK hP hD hS 4 1 rfl rfl (vp_in_nI (by omega) (by decide)) dX12_marks_21 (fun H locs hP hD hS => ?_)
        have hP : va_P E.1 vwCl [(h0, ob 12 (mfs g)), ((r 38), aI E 64 mx), ((r 39), aI E 64 my), ((r 40), aI E 64 mw), ((r 47), aI E 64 (upd bx (nI i).toNatClampNeg (mx i))), ((r 48), aI E 64 by_), ((r 49), aI E 64 bw)] H := hP
        have hD : va_D A [(h0, ob 12 (mfs g)), ((r 38), aI E 64 mx), ((r 39), aI E 64 my), ((r 40), aI E 64 mw), ((r 47), aI E 64 (upd bx (nI i).toNatClampNeg (mx i))), ((r 48), aI E 64 by_), ((r 49), aI E 64 bw)] := hD
        rw [nI_clamp (n := i) (by omega)] at hP hD
        refine lv_aload_n hx hb dX12_marks_22 rfl (lv_at hl 0 rfl) ?_
        refine va_get (D := E.1) (ci := 12) (v := .ref (r 48)) (C := RX12) (T := TX12) (N := 116) hx hb hts iX12 hown hK hP 0 rfl rfl 48 (by decide) (hts _ wdF_RX12_95) (fun _ h9 => h9) ((mfs_get _ 48 (by decide)).trans (congrArg some (show (g) 48 = .ref (r 48) from (hR 48 rfl)))) dX12_marks_23 ?_
        refine lv_iload_n hx hb dX12_marks_26 rfl (lv_at hl 1 rfl) ?_
        refine lv_aload_n hx hb dX12_marks_27 rfl (lv_at hl 0 rfl) ?_
        refine va_get (D := E.1) (ci := 12) (v := .ref (r 39)) (C := RX12) (T := TX12) (N := 116) hx hb hts iX12 hown hK hP 0 rfl rfl 39 (by decide) (hts _ wdF_RX12_74) (fun _ h9 => h9) ((mfs_get _ 39 (by decide)).trans (congrArg some (show (g) 39 = .ref (r 39) from (hR 39 rfl)))) dX12_marks_28 ?_
        refine lv_iload_n hx hb dX12_marks_31 rfl (lv_at hl 1 rfl) ?_
        refine va_iald hx hb hK hP 2 1 rfl rfl (vp_in_nI (by omega) (by decide)) dX12_marks_32 ?_
        rw [nI_clamp (n := i) (by omega)]
        refine va_iast hx hb hK hP hD hS 5 1 rfl rfl (vp_in_nI (by omega) (by decide)) dX12_marks_33 (fun H locs hP hD hS => ?_)
        have hP : va_P E.1 vwCl [(h0, ob 12 (mfs g)), ((r 38), aI E 64 mx), ((r 39), aI E 64 my), ((r 40), aI E 64 mw), ((r 47), aI E 64 (upd bx i (mx i))), ((r 48), aI E 64 (upd by_ (nI i).toNatClampNeg (my i))), ((r 49), aI E 64 bw)] H := hP
        have hD : va_D A [(h0, ob 12 (mfs g)), ((r 38), aI E 64 mx), ((r 39), aI E 64 my), ((r 40), aI E 64 mw), ((r 47), aI E 64 (upd bx i (mx i))), ((r 48), aI E 64 (upd by_ (nI i).toNatClampNeg (my i))), ((r 49), aI E 64 bw)] := hD
        rw [nI_clamp (n := i) (by omega)] at hP hD
        refine lv_aload_n hx hb dX12_marks_34 rfl (lv_at hl 0 rfl) ?_
        refine va_get (D := E.1) (ci := 12) (v := .ref (r 49)) (C := RX12) (T := TX12) (N := 116) hx hb hts iX12 hown hK hP 0 rfl rfl 49 (by decide) (hts _ wdF_RX12_98) (fun _ h9 => h9) ((mfs_get _ 49 (by decide)).trans (congrArg some (show (g) 49 = .ref (r 49) from (hR 49 rfl)))) dX12_marks_35 ?_
        refine lv_iload_n hx hb dX12_marks_38 rfl (lv_at hl 1 rfl) ?_
        refine lv_aload_n hx hb dX12_marks_39 rfl (lv_at hl 0 rfl) ?_
        refine va_get (D := E.1) (ci := 12) (v := .ref (r 40)) (C := RX12) (T := TX12) (N := 116) hx hb hts iX12 hown hK hP 0 rfl rfl 40 (by decide) (hts _ wdF_RX12_77) (fun _ h9 => h9) ((mfs_get _ 40 (by decide)).trans (congrArg some (show (g) 40 = .ref (r 40) from (hR 40 rfl)))) dX12_marks_40 ?_
        refine lv_iload_n hx hb dX12_marks_43 rfl (lv_at hl 1 rfl) ?_
        refine va_iald hx hb hK hP 3 1 rfl rfl (vp_in_nI (by omega) (by decide)) dX12_marks_44 ?_
        rw [nI_clamp (n := i) (by omega)]
        refine va_iast hx hb hK hP hD hS 6 1 rfl rfl (vp_in_nI (by omega) (by decide)) dX12_marks_45 (fun H locs hP hD hS => ?_)
        have hP : va_P E.1 vwCl [(h0, ob 12 (mfs g)), ((r 38), aI E 64 mx), ((r 39), aI E 64 my), ((r 40), aI E 64 mw), ((r 47), aI E 64 (upd bx i (mx i))), ((r 48), aI E 64 (upd by_ i (my i))), ((r 49), aI E 64 (upd bw (nI i).toNatClampNeg (mw i)))] H := hP
        have hD : va_D A [(h0, ob 12 (mfs g)), ((r 38), aI E 64 mx), ((r 39), aI E 64 my), ((r 40), aI E 64 mw), ((r 47), aI E 64 (upd bx i (mx i))), ((r 48), aI E 64 (upd by_ i (my i))), ((r 49), aI E 64 (upd bw (nI i).toNatClampNeg (mw i)))] := hD
        rw [nI_clamp (n := i) (by omega)] at hP hD
        refine lv_iinc (v := nI (i + 1)) (lv' := [(1, .int (nI (i + 1))), (0, .ref h0)]) hx hb dX12_marks_46 hl (k := 1) rfl (nI_1 i) (by decide) rfl (fun ls hl => ?_)
        refine lv_goto (tgt := 2) hx hb dX12_marks_49 (by decide) ?_
        exact ih_lp (i + 1) (upd bx i (mx i)) (upd by_ i (my i)) (upd bw i (mw i)) (by omega) (by omega) (fun d hd => (Decidable.em (d = i)).elim (fun h => by rw [h]; exact ⟨pk_us, pk_us, pk_us⟩) (fun h => by rw [pk_un h, pk_un h, pk_un h]; exact hg9 d (by omega))) _ _ _ hP hD hS (lv_sub hl [1, 0] rfl)
  exact lp (N + 1) 0 ax ay aw (by omega) (by omega) (fun d h => absurd h (by omega)) _ _ _ hP hD hS (lv_sub hl [1, 0] rfl)
theorem yy_X12_marks : cY yX12_marks cX12_marks 2 none 0 := ⟨wdK_X12_marks, wdZ_RX12, by decide +kernel⟩
theorem yi_X12_marks : cYi yX12_marks := ⟨wdN_X12_marks, wdS_X12_marks⟩
theorem dX12_begins_0 : decode cX12_begins 0 = .ok (.iload_n 1, 1) := by decide +kernel
theorem dX12_begins_1 : decode cX12_begins 1 = .ok (.ifCond .ne 11, 3) := by decide +kernel
theorem dX12_begins_4 : decode cX12_begins 4 = .ok (.iload_n 2, 1) := by decide +kernel
theorem dX12_begins_5 : decode cX12_begins 5 = .ok (.iconst 4, 1) := by decide +kernel
theorem dX12_begins_6 : decode cX12_begins 6 = .ok (.if_icmp .eq 27, 3) := by decide +kernel
theorem dX12_begins_9 : decode cX12_begins 9 = .ok (.goto 22, 3) := by decide +kernel
theorem dX12_begins_12 : decode cX12_begins 12 = .ok (.iload_n 1, 1) := by decide +kernel
theorem dX12_begins_13 : decode cX12_begins 13 = .ok (.iconst 1, 1) := by decide +kernel
theorem dX12_begins_14 : decode cX12_begins 14 = .ok (.iconst 3, 1) := by decide +kernel
theorem dX12_begins_15 : decode cX12_begins 15 = .ok (.invokestatic 227, 3) := by decide +kernel
theorem dX12_begins_18 : decode cX12_begins 18 = .ok (.ifCond .eq 13, 3) := by decide +kernel
theorem dX12_begins_21 : decode cX12_begins 21 = .ok (.iload_n 2, 1) := by decide +kernel
theorem dX12_begins_22 : decode cX12_begins 22 = .ok (.iconst 1, 1) := by decide +kernel
theorem dX12_begins_23 : decode cX12_begins 23 = .ok (.bipush 32, 2) := by decide +kernel
theorem dX12_begins_25 : decode cX12_begins 25 = .ok (.invokestatic 227, 3) := by decide +kernel
theorem dX12_begins_28 : decode cX12_begins 28 = .ok (.ifCond .ne 5, 3) := by decide +kernel
theorem dX12_begins_31 : decode cX12_begins 31 = .ok (.iconst 0, 1) := by decide +kernel
theorem dX12_begins_32 : decode cX12_begins 32 = .ok (.ireturn, 1) := by decide +kernel
theorem dX12_begins_33 : decode cX12_begins 33 = .ok (.aload_n 0, 1) := by decide +kernel
theorem dX12_begins_34 : decode cX12_begins 34 = .ok (.iconst 2, 1) := by decide +kernel
theorem dX12_begins_35 : decode cX12_begins 35 = .ok (.iload_n 2, 1) := by decide +kernel
theorem dX12_begins_36 : decode cX12_begins 36 = .ok (.imul, 1) := by decide +kernel
theorem dX12_begins_37 : decode cX12_begins 37 = .ok (.putfield 231, 3) := by decide +kernel
theorem dX12_begins_40 : decode cX12_begins 40 = .ok (.iload_n 1, 1) := by decide +kernel
theorem dX12_begins_41 : decode cX12_begins 41 = .ok (.ifCond .ne 77, 3) := by decide +kernel
theorem dX12_begins_44 : decode cX12_begins 44 = .ok (.aload_n 0, 1) := by decide +kernel
theorem dX12_begins_45 : decode cX12_begins 45 = .ok (.iconst 0, 1) := by decide +kernel
theorem dX12_begins_46 : decode cX12_begins 46 = .ok (.iconst 4, 1) := by decide +kernel
theorem dX12_begins_47 : decode cX12_begins 47 = .ok (.iconst 0, 1) := by decide +kernel
theorem dX12_begins_48 : decode cX12_begins 48 = .ok (.iconst 0, 1) := by decide +kernel
theorem dX12_begins_49 : decode cX12_begins 49 = .ok (.invokevirtual 234, 3) := by decide +kernel
theorem dX12_begins_52 : decode cX12_begins 52 = .ok (.aload_n 0, 1) := by decide +kernel
theorem dX12_begins_53 : decode cX12_begins 53 = .ok (.iconst 1, 1) := by decide +kernel
theorem dX12_begins_54 : decode cX12_begins 54 = .ok (.bipush 8, 2) := by decide +kernel
theorem dX12_begins_56 : decode cX12_begins 56 = .ok (.iconst 0, 1) := by decide +kernel
theorem dX12_begins_57 : decode cX12_begins 57 = .ok (.iconst 0, 1) := by decide +kernel
theorem dX12_begins_58 : decode cX12_begins 58 = .ok (.invokevirtual 234, 3) := by decide +kernel
theorem dX12_begins_61 : decode cX12_begins 61 = .ok (.aload_n 0, 1) := by decide +kernel
theorem dX12_begins_62 : decode cX12_begins 62 = .ok (.iconst 2, 1) := by decide +kernel
theorem dX12_begins_63 : decode cX12_begins 63 = .ok (.bipush 12, 2) := by decide +kernel
theorem dX12_begins_65 : decode cX12_begins 65 = .ok (.iconst 4, 1) := by decide +kernel
theorem dX12_begins_66 : decode cX12_begins 66 = .ok (.iconst 3, 1) := by decide +kernel
theorem dX12_begins_67 : decode cX12_begins 67 = .ok (.invokevirtual 234, 3) := by decide +kernel
theorem dX12_begins_70 : decode cX12_begins 70 = .ok (.aload_n 0, 1) := by decide +kernel
theorem dX12_begins_71 : decode cX12_begins 71 = .ok (.iconst 3, 1) := by decide +kernel
theorem dX12_begins_72 : decode cX12_begins 72 = .ok (.bipush 12, 2) := by decide +kernel
theorem dX12_begins_74 : decode cX12_begins 74 = .ok (.bipush 8, 2) := by decide +kernel
theorem dX12_begins_76 : decode cX12_begins 76 = .ok (.iconst 3, 1) := by decide +kernel
theorem dX12_begins_77 : decode cX12_begins 77 = .ok (.invokevirtual 234, 3) := by decide +kernel
theorem dX12_begins_80 : decode cX12_begins 80 = .ok (.aload_n 0, 1) := by decide +kernel
theorem dX12_begins_81 : decode cX12_begins 81 = .ok (.iconst 4, 1) := by decide +kernel
theorem dX12_begins_82 : decode cX12_begins 82 = .ok (.bipush 8, 2) := by decide +kernel
theorem dX12_begins_84 : decode cX12_begins 84 = .ok (.bipush 12, 2) := by decide +kernel
theorem dX12_begins_86 : decode cX12_begins 86 = .ok (.iconst 2, 1) := by decide +kernel
theorem dX12_begins_87 : decode cX12_begins 87 = .ok (.invokevirtual 234, 3) := by decide +kernel
theorem dX12_begins_90 : decode cX12_begins 90 = .ok (.aload_n 0, 1) := by decide +kernel
theorem dX12_begins_91 : decode cX12_begins 91 = .ok (.iconst 5, 1) := by decide +kernel
theorem dX12_begins_92 : decode cX12_begins 92 = .ok (.iconst 4, 1) := by decide +kernel
theorem dX12_begins_93 : decode cX12_begins 93 = .ok (.bipush 12, 2) := by decide +kernel
theorem dX12_begins_95 : decode cX12_begins 95 = .ok (.iconst 2, 1) := by decide +kernel
theorem dX12_begins_96 : decode cX12_begins 96 = .ok (.invokevirtual 234, 3) := by decide +kernel
theorem dX12_begins_99 : decode cX12_begins 99 = .ok (.aload_n 0, 1) := by decide +kernel
theorem dX12_begins_100 : decode cX12_begins 100 = .ok (.bipush 6, 2) := by decide +kernel
theorem dX12_begins_102 : decode cX12_begins 102 = .ok (.iconst 0, 1) := by decide +kernel
theorem dX12_begins_103 : decode cX12_begins 103 = .ok (.bipush 8, 2) := by decide +kernel
theorem dX12_begins_105 : decode cX12_begins 105 = .ok (.iconst 1, 1) := by decide +kernel
theorem dX12_begins_106 : decode cX12_begins 106 = .ok (.invokevirtual 234, 3) := by decide +kernel
theorem dX12_begins_109 : decode cX12_begins 109 = .ok (.aload_n 0, 1) := by decide +kernel
theorem dX12_begins_110 : decode cX12_begins 110 = .ok (.bipush 7, 2) := by decide +kernel
theorem dX12_begins_112 : decode cX12_begins 112 = .ok (.iconst 0, 1) := by decide +kernel
theorem dX12_begins_113 : decode cX12_begins 113 = .ok (.iconst 4, 1) := by decide +kernel
theorem dX12_begins_114 : decode cX12_begins 114 = .ok (.iconst 1, 1) := by decide +kernel
theorem dX12_begins_115 : decode cX12_begins 115 = .ok (.invokevirtual 234, 3) := by decide +kernel
theorem dX12_begins_118 : decode cX12_begins 118 = .ok (.iconst 0, 1) := by decide +kernel
theorem dX12_begins_119 : decode cX12_begins 119 = .ok (.istore_n 3, 1) := by decide +kernel
theorem dX12_begins_120 : decode cX12_begins 120 = .ok (.iload_n 3, 1) := by decide +kernel
theorem dX12_begins_121 : decode cX12_begins 121 = .ok (.iload_n 2, 1) := by decide +kernel
theorem dX12_begins_122 : decode cX12_begins 122 = .ok (.if_icmp .ge 221, 3) := by decide +kernel
theorem dX12_begins_125 : decode cX12_begins 125 = .ok (.iload_n 1, 1) := by decide +kernel
theorem dX12_begins_126 : decode cX12_begins 126 = .ok (.ifCond .le 217, 3) := by decide +kernel
theorem dX12_begins_129 : decode cX12_begins 129 = .ok (.iload_n 3, 1) := by decide +kernel
theorem dX12_begins_130 : decode cX12_begins 130 = .ok (.iconst 2, 1) := by decide +kernel
theorem dX12_begins_131 : decode cX12_begins 131 = .ok (.irem, 1) := by decide +kernel
theorem dX12_begins_132 : decode cX12_begins 132 = .ok (.ifCond .ne 7, 3) := by decide +kernel
theorem dX12_begins_135 : decode cX12_begins 135 = .ok (.iconst 1, 1) := by decide +kernel
theorem dX12_begins_136 : decode cX12_begins 136 = .ok (.goto 4, 3) := by decide +kernel
theorem dX12_begins_139 : decode cX12_begins 139 = .ok (.iconst 0, 1) := by decide +kernel
theorem dX12_begins_140 : decode cX12_begins 140 = .ok (.istore 4, 2) := by decide +kernel
theorem dX12_begins_142 : decode cX12_begins 142 = .ok (.iconst 2, 1) := by decide +kernel
theorem dX12_begins_143 : decode cX12_begins 143 = .ok (.iload_n 3, 1) := by decide +kernel
theorem dX12_begins_144 : decode cX12_begins 144 = .ok (.imul, 1) := by decide +kernel
theorem dX12_begins_145 : decode cX12_begins 145 = .ok (.istore 5, 2) := by decide +kernel
theorem dX12_begins_147 : decode cX12_begins 147 = .ok (.bipush 8, 2) := by decide +kernel
theorem dX12_begins_149 : decode cX12_begins 149 = .ok (.iload_n 3, 1) := by decide +kernel
theorem dX12_begins_150 : decode cX12_begins 150 = .ok (.iconst 2, 1) := by decide +kernel
theorem dX12_begins_151 : decode cX12_begins 151 = .ok (.idiv, 1) := by decide +kernel
theorem dX12_begins_152 : decode cX12_begins 152 = .ok (.imul, 1) := by decide +kernel
theorem dX12_begins_153 : decode cX12_begins 153 = .ok (.istore 6, 2) := by decide +kernel
theorem dX12_begins_155 : decode cX12_begins 155 = .ok (.iload_n 1, 1) := by decide +kernel
theorem dX12_begins_156 : decode cX12_begins 156 = .ok (.iconst 1, 1) := by decide +kernel
theorem dX12_begins_157 : decode cX12_begins 157 = .ok (.if_icmp .ne 30, 3) := by decide +kernel
theorem dX12_begins_160 : decode cX12_begins 160 = .ok (.aload_n 0, 1) := by decide +kernel
theorem dX12_begins_161 : decode cX12_begins 161 = .ok (.iload 5, 2) := by decide +kernel
theorem dX12_begins_163 : decode cX12_begins 163 = .ok (.iconst 0, 1) := by decide +kernel
theorem dX12_begins_164 : decode cX12_begins 164 = .ok (.iconst 4, 1) := by decide +kernel
theorem dX12_begins_165 : decode cX12_begins 165 = .ok (.iload_n 3, 1) := by decide +kernel
theorem dX12_begins_166 : decode cX12_begins 166 = .ok (.imul, 1) := by decide +kernel
theorem dX12_begins_167 : decode cX12_begins 167 = .ok (.iconst 1, 1) := by decide +kernel
theorem dX12_begins_168 : decode cX12_begins 168 = .ok (.invokevirtual 234, 3) := by decide +kernel
theorem dX12_begins_171 : decode cX12_begins 171 = .ok (.aload_n 0, 1) := by decide +kernel
theorem dX12_begins_172 : decode cX12_begins 172 = .ok (.iload 5, 2) := by decide +kernel
theorem dX12_begins_174 : decode cX12_begins 174 = .ok (.iconst 1, 1) := by decide +kernel
theorem dX12_begins_175 : decode cX12_begins 175 = .ok (.iadd, 1) := by decide +kernel
theorem dX12_begins_176 : decode cX12_begins 176 = .ok (.iconst 4, 1) := by decide +kernel
theorem dX12_begins_177 : decode cX12_begins 177 = .ok (.iconst 4, 1) := by decide +kernel
theorem dX12_begins_178 : decode cX12_begins 178 = .ok (.iload_n 3, 1) := by decide +kernel
theorem dX12_begins_179 : decode cX12_begins 179 = .ok (.imul, 1) := by decide +kernel
theorem dX12_begins_180 : decode cX12_begins 180 = .ok (.iconst 3, 1) := by decide +kernel
theorem dX12_begins_181 : decode cX12_begins 181 = .ok (.invokevirtual 234, 3) := by decide +kernel
theorem dX12_begins_184 : decode cX12_begins 184 = .ok (.goto 153, 3) := by decide +kernel
theorem dX12_begins_187 : decode cX12_begins 187 = .ok (.iload_n 1, 1) := by decide +kernel
theorem dX12_begins_188 : decode cX12_begins 188 = .ok (.iconst 2, 1) := by decide +kernel
theorem dX12_begins_189 : decode cX12_begins 189 = .ok (.if_icmp .ne 66, 3) := by decide +kernel
theorem dX12_begins_192 : decode cX12_begins 192 = .ok (.aload_n 0, 1) := by decide +kernel
theorem dX12_begins_193 : decode cX12_begins 193 = .ok (.iload 5, 2) := by decide +kernel
theorem dX12_begins_195 : decode cX12_begins 195 = .ok (.iload 4, 2) := by decide +kernel
theorem dX12_begins_197 : decode cX12_begins 197 = .ok (.ifCond .eq 7, 3) := by decide +kernel
theorem dX12_begins_200 : decode cX12_begins 200 = .ok (.iconst 0, 1) := by decide +kernel
theorem dX12_begins_201 : decode cX12_begins 201 = .ok (.goto 4, 3) := by decide +kernel
theorem dX12_begins_204 : decode cX12_begins 204 = .ok (.iconst 4, 1) := by decide +kernel
theorem dX12_begins_205 : decode cX12_begins 205 = .ok (.iconst 4, 1) := by decide +kernel
theorem dX12_begins_206 : decode cX12_begins 206 = .ok (.iload_n 3, 1) := by decide +kernel
theorem dX12_begins_207 : decode cX12_begins 207 = .ok (.imul, 1) := by decide +kernel
theorem dX12_begins_208 : decode cX12_begins 208 = .ok (.iload 4, 2) := by decide +kernel
theorem dX12_begins_210 : decode cX12_begins 210 = .ok (.ifCond .eq 7, 3) := by decide +kernel
theorem dX12_begins_213 : decode cX12_begins 213 = .ok (.iconst 0, 1) := by decide +kernel
theorem dX12_begins_214 : decode cX12_begins 214 = .ok (.goto 4, 3) := by decide +kernel
theorem dX12_begins_217 : decode cX12_begins 217 = .ok (.iconst 2, 1) := by decide +kernel
theorem dX12_begins_218 : decode cX12_begins 218 = .ok (.invokevirtual 234, 3) := by decide +kernel
theorem dX12_begins_221 : decode cX12_begins 221 = .ok (.aload_n 0, 1) := by decide +kernel
theorem dX12_begins_222 : decode cX12_begins 222 = .ok (.iload 5, 2) := by decide +kernel
theorem dX12_begins_224 : decode cX12_begins 224 = .ok (.iconst 1, 1) := by decide +kernel
theorem dX12_begins_225 : decode cX12_begins 225 = .ok (.iadd, 1) := by decide +kernel
theorem dX12_begins_226 : decode cX12_begins 226 = .ok (.iload 4, 2) := by decide +kernel
theorem dX12_begins_228 : decode cX12_begins 228 = .ok (.ifCond .eq 7, 3) := by decide +kernel
theorem dX12_begins_231 : decode cX12_begins 231 = .ok (.iconst 4, 1) := by decide +kernel
theorem dX12_begins_232 : decode cX12_begins 232 = .ok (.goto 4, 3) := by decide +kernel
theorem dX12_begins_235 : decode cX12_begins 235 = .ok (.iconst 0, 1) := by decide +kernel
theorem dX12_begins_236 : decode cX12_begins 236 = .ok (.iconst 4, 1) := by decide +kernel
theorem dX12_begins_237 : decode cX12_begins 237 = .ok (.iload_n 3, 1) := by decide +kernel
theorem dX12_begins_238 : decode cX12_begins 238 = .ok (.imul, 1) := by decide +kernel
theorem dX12_begins_239 : decode cX12_begins 239 = .ok (.iload 4, 2) := by decide +kernel
theorem dX12_begins_241 : decode cX12_begins 241 = .ok (.ifCond .eq 7, 3) := by decide +kernel
theorem dX12_begins_244 : decode cX12_begins 244 = .ok (.iconst 0, 1) := by decide +kernel
theorem dX12_begins_245 : decode cX12_begins 245 = .ok (.goto 4, 3) := by decide +kernel
theorem dX12_begins_248 : decode cX12_begins 248 = .ok (.iconst 2, 1) := by decide +kernel
theorem dX12_begins_249 : decode cX12_begins 249 = .ok (.invokevirtual 234, 3) := by decide +kernel
theorem dX12_begins_252 : decode cX12_begins 252 = .ok (.goto 85, 3) := by decide +kernel
theorem dX12_begins_255 : decode cX12_begins 255 = .ok (.aload_n 0, 1) := by decide +kernel
theorem dX12_begins_256 : decode cX12_begins 256 = .ok (.iload 5, 2) := by decide +kernel
theorem dX12_begins_258 : decode cX12_begins 258 = .ok (.iload 4, 2) := by decide +kernel
theorem dX12_begins_260 : decode cX12_begins 260 = .ok (.ifCond .eq 7, 3) := by decide +kernel
theorem dX12_begins_263 : decode cX12_begins 263 = .ok (.iconst 0, 1) := by decide +kernel
theorem dX12_begins_264 : decode cX12_begins 264 = .ok (.goto 4, 3) := by decide +kernel
theorem dX12_begins_267 : decode cX12_begins 267 = .ok (.iconst 4, 1) := by decide +kernel
theorem dX12_begins_268 : decode cX12_begins 268 = .ok (.iload 4, 2) := by decide +kernel
theorem dX12_begins_270 : decode cX12_begins 270 = .ok (.ifCond .eq 10, 3) := by decide +kernel
theorem dX12_begins_273 : decode cX12_begins 273 = .ok (.iload 6, 2) := by decide +kernel
theorem dX12_begins_275 : decode cX12_begins 275 = .ok (.iconst 4, 1) := by decide +kernel
theorem dX12_begins_276 : decode cX12_begins 276 = .ok (.iadd, 1) := by decide +kernel
theorem dX12_begins_277 : decode cX12_begins 277 = .ok (.goto 5, 3) := by decide +kernel
theorem dX12_begins_280 : decode cX12_begins 280 = .ok (.iload 6, 2) := by decide +kernel
theorem dX12_begins_282 : decode cX12_begins 282 = .ok (.iload 4, 2) := by decide +kernel
theorem dX12_begins_284 : decode cX12_begins 284 = .ok (.ifCond .eq 7, 3) := by decide +kernel
theorem dX12_begins_287 : decode cX12_begins 287 = .ok (.iconst 1, 1) := by decide +kernel
theorem dX12_begins_288 : decode cX12_begins 288 = .ok (.goto 4, 3) := by decide +kernel
theorem dX12_begins_291 : decode cX12_begins 291 = .ok (.iconst 3, 1) := by decide +kernel
theorem dX12_begins_292 : decode cX12_begins 292 = .ok (.invokevirtual 234, 3) := by decide +kernel
theorem dX12_begins_295 : decode cX12_begins 295 = .ok (.aload_n 0, 1) := by decide +kernel
theorem dX12_begins_296 : decode cX12_begins 296 = .ok (.iload 5, 2) := by decide +kernel
theorem dX12_begins_298 : decode cX12_begins 298 = .ok (.iconst 1, 1) := by decide +kernel
theorem dX12_begins_299 : decode cX12_begins 299 = .ok (.iadd, 1) := by decide +kernel
theorem dX12_begins_300 : decode cX12_begins 300 = .ok (.iload 4, 2) := by decide +kernel
theorem dX12_begins_302 : decode cX12_begins 302 = .ok (.ifCond .eq 7, 3) := by decide +kernel
theorem dX12_begins_305 : decode cX12_begins 305 = .ok (.iconst 0, 1) := by decide +kernel
theorem dX12_begins_306 : decode cX12_begins 306 = .ok (.goto 4, 3) := by decide +kernel
theorem dX12_begins_309 : decode cX12_begins 309 = .ok (.iconst 4, 1) := by decide +kernel
theorem dX12_begins_310 : decode cX12_begins 310 = .ok (.iload 4, 2) := by decide +kernel
theorem dX12_begins_312 : decode cX12_begins 312 = .ok (.ifCond .eq 8, 3) := by decide +kernel
theorem dX12_begins_315 : decode cX12_begins 315 = .ok (.iload 6, 2) := by decide +kernel
theorem dX12_begins_317 : decode cX12_begins 317 = .ok (.goto 7, 3) := by decide +kernel
theorem dX12_begins_320 : decode cX12_begins 320 = .ok (.iload 6, 2) := by decide +kernel
theorem dX12_begins_322 : decode cX12_begins 322 = .ok (.iconst 4, 1) := by decide +kernel
theorem dX12_begins_323 : decode cX12_begins 323 = .ok (.iadd, 1) := by decide +kernel
theorem dX12_begins_324 : decode cX12_begins 324 = .ok (.iload 4, 2) := by decide +kernel
theorem dX12_begins_326 : decode cX12_begins 326 = .ok (.ifCond .eq 7, 3) := by decide +kernel
theorem dX12_begins_329 : decode cX12_begins 329 = .ok (.iconst 1, 1) := by decide +kernel
theorem dX12_begins_330 : decode cX12_begins 330 = .ok (.goto 4, 3) := by decide +kernel
theorem dX12_begins_333 : decode cX12_begins 333 = .ok (.iconst 3, 1) := by decide +kernel
theorem dX12_begins_334 : decode cX12_begins 334 = .ok (.invokevirtual 234, 3) := by decide +kernel
theorem dX12_begins_337 : decode cX12_begins 337 = .ok (.iinc 3 1, 3) := by decide +kernel
theorem dX12_begins_340 : decode cX12_begins 340 = .ok (.goto (-220), 3) := by decide +kernel
theorem dX12_begins_343 : decode cX12_begins 343 = .ok (.iconst 0, 1) := by decide +kernel
theorem dX12_begins_344 : decode cX12_begins 344 = .ok (.istore_n 3, 1) := by decide +kernel
theorem dX12_begins_345 : decode cX12_begins 345 = .ok (.iload_n 3, 1) := by decide +kernel
theorem dX12_begins_346 : decode cX12_begins 346 = .ok (.aload_n 0, 1) := by decide +kernel
theorem dX12_begins_347 : decode cX12_begins 347 = .ok (.getfield 231, 3) := by decide +kernel
theorem dX12_begins_350 : decode cX12_begins 350 = .ok (.if_icmp .ge 45, 3) := by decide +kernel
theorem dX12_begins_353 : decode cX12_begins 353 = .ok (.aload_n 0, 1) := by decide +kernel
theorem dX12_begins_354 : decode cX12_begins 354 = .ok (.getfield 83, 3) := by decide +kernel
theorem dX12_begins_357 : decode cX12_begins 357 = .ok (.iload_n 3, 1) := by decide +kernel
theorem dX12_begins_358 : decode cX12_begins 358 = .ok (.aload_n 0, 1) := by decide +kernel
theorem dX12_begins_359 : decode cX12_begins 359 = .ok (.getfield 71, 3) := by decide +kernel
theorem dX12_begins_362 : decode cX12_begins 362 = .ok (.iload_n 3, 1) := by decide +kernel
theorem dX12_begins_363 : decode cX12_begins 363 = .ok (.iaload, 1) := by decide +kernel
theorem dX12_begins_364 : decode cX12_begins 364 = .ok (.iastore, 1) := by decide +kernel
theorem dX12_begins_365 : decode cX12_begins 365 = .ok (.aload_n 0, 1) := by decide +kernel
theorem dX12_begins_366 : decode cX12_begins 366 = .ok (.getfield 86, 3) := by decide +kernel
theorem dX12_begins_369 : decode cX12_begins 369 = .ok (.iload_n 3, 1) := by decide +kernel
theorem dX12_begins_370 : decode cX12_begins 370 = .ok (.aload_n 0, 1) := by decide +kernel
theorem dX12_begins_371 : decode cX12_begins 371 = .ok (.getfield 74, 3) := by decide +kernel
theorem dX12_begins_374 : decode cX12_begins 374 = .ok (.iload_n 3, 1) := by decide +kernel
theorem dX12_begins_375 : decode cX12_begins 375 = .ok (.iaload, 1) := by decide +kernel
theorem dX12_begins_376 : decode cX12_begins 376 = .ok (.iastore, 1) := by decide +kernel
theorem dX12_begins_377 : decode cX12_begins 377 = .ok (.aload_n 0, 1) := by decide +kernel
theorem dX12_begins_378 : decode cX12_begins 378 = .ok (.getfield 89, 3) := by decide +kernel
theorem dX12_begins_381 : decode cX12_begins 381 = .ok (.iload_n 3, 1) := by decide +kernel
theorem dX12_begins_382 : decode cX12_begins 382 = .ok (.aload_n 0, 1) := by decide +kernel
theorem dX12_begins_383 : decode cX12_begins 383 = .ok (.getfield 77, 3) := by decide +kernel
theorem dX12_begins_386 : decode cX12_begins 386 = .ok (.iload_n 3, 1) := by decide +kernel
theorem dX12_begins_387 : decode cX12_begins 387 = .ok (.iaload, 1) := by decide +kernel
theorem dX12_begins_388 : decode cX12_begins 388 = .ok (.iastore, 1) := by decide +kernel
theorem dX12_begins_389 : decode cX12_begins 389 = .ok (.iinc 3 1, 3) := by decide +kernel
theorem dX12_begins_392 : decode cX12_begins 392 = .ok (.goto (-47), 3) := by decide +kernel
theorem dX12_begins_395 : decode cX12_begins 395 = .ok (.iconst 1, 1) := by decide +kernel
theorem dX12_begins_396 : decode cX12_begins 396 = .ok (.ireturn, 1) := by decide +kernel
abbrev rm_c_X12_begins_bad : Room := { frames := 1, cells := 0, slots := 0, locals := 22 }
set_option maxHeartbeats 4000000 in
set_option maxRecDepth 100000 in
theorem c_X12_begins_bad (l : Launch) (E : cE) (h0 : Nat) (r : Nat → Nat) (g : Nat → Value) (k : Int32) (n : Int32) (hR : mOK r g) (hv : ¬ ((k = 0 ∧ n = 4) ∨ (1 ≤ k ∧ k ≤ 3 ∧ 1 ≤ n ∧ n ≤ 32))) : cM l E yX12_begins cX12_begins 7 (some .boolean) rm_c_X12_begins_bad [.ref h0, .int k, .int n] [(h0, ob 12 (mfs g))] (qI E (fun (r : Int32) (_u : Unit) => r = 0) (fun _ => [(h0, ob 12 (mfs g))])) := by
  refine cM_of (by decide) (Nat.le_of_ble_eq_true rfl) ?_
  intro p e s m below meth c ls A F hA hS hP hD hK hZ hl
  obtain ⟨hx, hb, hr, hml, hown, hts, hlk, hin⟩ := id F
  have hown : s.vm.findClass RX12 = some m.cls := hown
  have hl : lv_has ls 7 [(0, .ref h0), (1, .int k), (2, .int n)] := hl
  refine lv_iload_n hx hb dX12_begins_0 rfl (lv_at hl 1 rfl) ?_
  refine lv_if_ne (tgt := 12) hx hb dX12_begins_1 (by decide) (fun c1 => ?_) (fun c1 => ?_)
  · refine lv_iload_n hx hb dX12_begins_12 rfl (lv_at hl 1 rfl) ?_
    refine lv_iconst (v := nI 1) hx hb dX12_begins_13 (by decide) ?_
    refine lv_iconst (v := nI 3) hx hb dX12_begins_14 (by decide) ?_
    refine cI_go (wr := [(h0, ob 12 (mfs g))]) (cM_runS (As := [.int k, .int (nI 1), .int (nI 3)]) (rest := []) F (c_X12_in l E k (nI 1) (nI 3)) yy_X12_in wdT_X12_in wdM_RX12_227 hP hD hS hK hZ hA [] rfl rfl rfl hl.1 rfl (Nat.le_of_ble_eq_true rfl) dX12_begins_15 ⟨by decide, by decide⟩ ⟨by decide, by decide⟩) hP hD hS hA [] [0] rfl rfl rfl (by decide) (fun r_3 u_2 H locs hw_1 hP hD hS => ?_)
    try dsimp only at hw_1
    have hP : va_P E.1 vwCl [(h0, ob 12 (mfs g))] H := hP
    have hD : va_D A [(h0, ob 12 (mfs g))] := hD
    refine lv_if_eq (tgt := 31) hx hb dX12_begins_18 (by decide) (fun c3 => ?_) (fun c3 => ?_)
    · refine lv_iconst (v := nI 0) hx hb dX12_begins_31 (by decide) ?_
      exact cB_ret F hP hD hS hK (by decide) () rfl [0] rfl rfl dX12_begins_32 (by decide) (by decide)
    · have c4 : 1 ≤ k ∧ k ≤ 3 := Decidable.byContradiction (fun h => c3 (hw_1.trans (if_neg h)))
      refine lv_iload_n hx hb dX12_begins_21 rfl (lv_at hl 2 rfl) ?_
      refine lv_iconst (v := nI 1) hx hb dX12_begins_22 (by decide) ?_
      refine lv_bipush (v := nI 32) hx hb dX12_begins_23 (by decide) ?_
      refine cI_go (wr := [(h0, ob 12 (mfs g))]) (cM_runS (As := [.int n, .int (nI 1), .int (nI 32)]) (rest := []) F (c_X12_in l E n (nI 1) (nI 32)) yy_X12_in wdT_X12_in wdM_RX12_227 hP hD hS hK hZ hA [] rfl rfl rfl hl.1 rfl (Nat.le_of_ble_eq_true rfl) dX12_begins_25 ⟨by decide, by decide⟩ ⟨by decide, by decide⟩) hP hD hS hA [] [0] rfl rfl rfl (by decide) (fun r_6 u_5 H locs hw_4 hP hD hS => ?_)
      try dsimp only at hw_4
      have hP : va_P E.1 vwCl [(h0, ob 12 (mfs g))] H := hP
      have hD : va_D A [(h0, ob 12 (mfs g))] := hD
      refine lv_if_ne (tgt := 33) hx hb dX12_begins_28 (by decide) (fun c5 => ?_) (fun c5 => ?_)
      · have c6 : 1 ≤ n ∧ n ≤ 32 := Decidable.byContradiction (fun h => c5 (hw_4.trans (if_neg h)))
        exact absurd (Or.inr ⟨c4.1, c4.2, c6.1, c6.2⟩) hv
      · refine lv_iconst (v := nI 0) hx hb dX12_begins_31 (by decide) ?_
        exact cB_ret F hP hD hS hK (by decide) () rfl [0] rfl rfl dX12_begins_32 (by decide) (by decide)
  · refine lv_iload_n hx hb dX12_begins_4 rfl (lv_at hl 2 rfl) ?_
    refine lv_iconst (v := nI 4) hx hb dX12_begins_5 (by decide) ?_
    refine lv_icmp_eq (tgt := 33) hx hb dX12_begins_6 (by decide) (fun c2 => ?_) (fun c2 => ?_)
    · exact absurd (Or.inl ⟨c1, c2⟩) hv
    · refine lv_goto (tgt := 31) hx hb dX12_begins_9 (by decide) ?_
      refine lv_iconst (v := nI 0) hx hb dX12_begins_31 (by decide) ?_
      exact cB_ret F hP hD hS hK (by decide) () rfl [0] rfl rfl dX12_begins_32 (by decide) (by decide)
theorem yy_X12_begins : cY yX12_begins cX12_begins 7 (some .boolean) 2 := ⟨wdK_X12_begins, wdZ_RX12, by decide +kernel⟩
theorem yi_X12_begins : cYi yX12_begins := ⟨wdN_X12_begins, wdS_X12_begins⟩
theorem flo_2 {cd : Nat → Nat} {c : Nat} {fx fy ff : Nat → Int32} {a1 a2 a3 b1 b2 b3 : Int32} (h : flo cd (2 * c) fx fy ff) (h1 : cd (2 * c) < 16384 ∧ a1 = nI (4 * (cd (2 * c) / 4 % 64)) ∧ a2 = nI (4 * (cd (2 * c) / 256)) ∧ a3 = nI (cd (2 * c) % 4)) (h2 : cd (2 * c + 1) < 16384 ∧ b1 = nI (4 * (cd (2 * c + 1) / 4 % 64)) ∧ b2 = nI (4 * (cd (2 * c + 1) / 256)) ∧ b3 = nI (cd (2 * c + 1) % 4)) : flo cd (2 * (c + 1)) (upd (upd fx (2 * c) a1) (2 * c + 1) b1) (upd (upd fy (2 * c) a2) (2 * c + 1) b2) (upd (upd ff (2 * c) a3) (2 * c + 1) b3) := by
  intro d hd
  by_cases e2 : d = 2 * c + 1
  · subst e2
    rw [pk_us, pk_us, pk_us]
    exact h2
  · rw [pk_un e2, pk_un e2, pk_un e2]
    by_cases e1 : d = 2 * c
    · subst e1
      rw [pk_us, pk_us, pk_us]
      exact h1
    · rw [pk_un e1, pk_un e1, pk_un e1]
      exact h d (by omega)
theorem trn_2 {c : Nat} {f : Nat → Int32} (h : ∀ d, d < 2 * c → f d = 0) : ∀ d, d < 2 * (c + 1) → (upd (upd f (2 * c) (nI 0)) (2 * c + 1) (nI 0)) d = 0 := by
  intro d hd
  by_cases e2 : d = 2 * c + 1
  · subst e2
    rw [pk_us]; rfl
  · rw [pk_un e2]
    by_cases e1 : d = 2 * c
    · subst e1
      rw [pk_us]; rfl
    · rw [pk_un e1]
      exact h d (by omega)
theorem sq_flo {mx my mw : Nat → Int32} : flo (stC 0) (2 * 4) (upd (upd (upd (upd (upd (upd (upd (upd mx 0 (nI 4)) 1 (nI 8)) 2 (nI 12)) 3 (nI 12)) 4 (nI 8)) 5 (nI 4)) 6 (nI 0)) 7 (nI 0)) (upd (upd (upd (upd (upd (upd (upd (upd my 0 (nI 0)) 1 (nI 0)) 2 (nI 4)) 3 (nI 8)) 4 (nI 12)) 5 (nI 12)) 6 (nI 8)) 7 (nI 4)) (upd (upd (upd (upd (upd (upd (upd (upd mw 0 (nI 0)) 1 (nI 0)) 2 (nI 3)) 3 (nI 3)) 4 (nI 2)) 5 (nI 2)) 6 (nI 1)) 7 (nI 1)) := by
  intro d hd
  rcases (show d = 0 ∨ d = 1 ∨ d = 2 ∨ d = 3 ∨ d = 4 ∨ d = 5 ∨ d = 6 ∨ d = 7 by omega) with rfl | rfl | rfl | rfl | rfl | rfl | rfl | rfl <;> exact ⟨by decide, by rfl, by rfl, by rfl⟩
theorem sq_trn {mt : Nat → Int32} : ∀ d, d < 2 * 4 → (upd (upd (upd (upd (upd (upd (upd (upd mt 0 (nI 0)) 1 (nI 0)) 2 (nI 0)) 3 (nI 0)) 4 (nI 0)) 5 (nI 0)) 6 (nI 0)) 7 (nI 0)) d = 0 := by
  intro d hd
  rcases (show d = 0 ∨ d = 1 ∨ d = 2 ∨ d = 3 ∨ d = 4 ∨ d = 5 ∨ d = 6 ∨ d = 7 by omega) with rfl | rfl | rfl | rfl | rfl | rfl | rfl | rfl <;> rfl
theorem bg_1_1 : ∀ c, c < 32 → c % 2 = 1 → (stC 1 (2 * c) < 16384 ∧ (nI 0) = nI (4 * (stC 1 (2 * c) / 4 % 64)) ∧ (nI (4 * c)) = nI (4 * (stC 1 (2 * c) / 256)) ∧ (nI 1) = nI (stC 1 (2 * c) % 4)) ∧ (stC 1 (2 * c + 1) < 16384 ∧ (nI 4) = nI (4 * (stC 1 (2 * c + 1) / 4 % 64)) ∧ (nI (4 * c)) = nI (4 * (stC 1 (2 * c + 1) / 256)) ∧ (nI 3) = nI (stC 1 (2 * c + 1) % 4)) := by decide +kernel
theorem bg_2_1 : ∀ c, c < 32 → c % 2 = 1 → (stC 2 (2 * c) < 16384 ∧ (nI 4) = nI (4 * (stC 2 (2 * c) / 4 % 64)) ∧ (nI (4 * c)) = nI (4 * (stC 2 (2 * c) / 256)) ∧ (nI 2) = nI (stC 2 (2 * c) % 4)) ∧ (stC 2 (2 * c + 1) < 16384 ∧ (nI 0) = nI (4 * (stC 2 (2 * c + 1) / 4 % 64)) ∧ (nI (4 * c)) = nI (4 * (stC 2 (2 * c + 1) / 256)) ∧ (nI 2) = nI (stC 2 (2 * c + 1) % 4)) := by decide +kernel
theorem bg_3_1 : ∀ c, c < 32 → c % 2 = 1 → (stC 3 (2 * c) < 16384 ∧ (nI 4) = nI (4 * (stC 3 (2 * c) / 4 % 64)) ∧ (nI (8 * (c / 2))) = nI (4 * (stC 3 (2 * c) / 256)) ∧ (nI 3) = nI (stC 3 (2 * c) % 4)) ∧ (stC 3 (2 * c + 1) < 16384 ∧ (nI 4) = nI (4 * (stC 3 (2 * c + 1) / 4 % 64)) ∧ (nI (8 * (c / 2) + 4)) = nI (4 * (stC 3 (2 * c + 1) / 256)) ∧ (nI 3) = nI (stC 3 (2 * c + 1) % 4)) := by decide +kernel
theorem bg_1_0 : ∀ c, c < 32 → c % 2 = 0 → (stC 1 (2 * c) < 16384 ∧ (nI 0) = nI (4 * (stC 1 (2 * c) / 4 % 64)) ∧ (nI (4 * c)) = nI (4 * (stC 1 (2 * c) / 256)) ∧ (nI 1) = nI (stC 1 (2 * c) % 4)) ∧ (stC 1 (2 * c + 1) < 16384 ∧ (nI 4) = nI (4 * (stC 1 (2 * c + 1) / 4 % 64)) ∧ (nI (4 * c)) = nI (4 * (stC 1 (2 * c + 1) / 256)) ∧ (nI 3) = nI (stC 1 (2 * c + 1) % 4)) := by decide +kernel
theorem bg_2_0 : ∀ c, c < 32 → c % 2 = 0 → (stC 2 (2 * c) < 16384 ∧ (nI 0) = nI (4 * (stC 2 (2 * c) / 4 % 64)) ∧ (nI (4 * c)) = nI (4 * (stC 2 (2 * c) / 256)) ∧ (nI 0) = nI (stC 2 (2 * c) % 4)) ∧ (stC 2 (2 * c + 1) < 16384 ∧ (nI 4) = nI (4 * (stC 2 (2 * c + 1) / 4 % 64)) ∧ (nI (4 * c)) = nI (4 * (stC 2 (2 * c + 1) / 256)) ∧ (nI 0) = nI (stC 2 (2 * c + 1) % 4)) := by decide +kernel
theorem bg_3_0 : ∀ c, c < 32 → c % 2 = 0 → (stC 3 (2 * c) < 16384 ∧ (nI 0) = nI (4 * (stC 3 (2 * c) / 4 % 64)) ∧ (nI (8 * (c / 2) + 4)) = nI (4 * (stC 3 (2 * c) / 256)) ∧ (nI 1) = nI (stC 3 (2 * c) % 4)) ∧ (stC 3 (2 * c + 1) < 16384 ∧ (nI 0) = nI (4 * (stC 3 (2 * c + 1) / 4 % 64)) ∧ (nI (8 * (c / 2))) = nI (4 * (stC 3 (2 * c + 1) / 256)) ∧ (nI 1) = nI (stC 3 (2 * c + 1) % 4)) := by decide +kernel
abbrev rm_c_X12_begins : Room := { frames := 1, cells := 0, slots := 0, locals := 24 }
set_option maxHeartbeats 4000000 in
set_option maxRecDepth 100000 in
theorem c_X12_begins (l : Launch) (E : cE) (h0 : Nat) (r : Nat → Nat) (g : Nat → Value) (mx : Nat → Int32) (my : Nat → Int32) (mw : Nat → Int32) (mt : Nat → Int32) (ex : Nat → Int32) (ey : Nat → Int32) (ew : Nat → Int32) (k : Nat) (n : Nat) (hR : mOK r g) (hv : (k = 0 ∧ n = 4) ∨ (1 ≤ k ∧ k ≤ 3 ∧ 1 ≤ n ∧ n ≤ 32)) : cM l E yX12_begins cX12_begins 7 (some .boolean) rm_c_X12_begins [.ref h0, .int (nI k), .int (nI n)] [(h0, ob 12 (mfs g)), ((r 38), aI E 64 mx), ((r 39), aI E 64 my), ((r 40), aI E 64 mw), ((r 41), aI E 64 mt), ((r 44), aI E 64 ex), ((r 45), aI E 64 ey), ((r 46), aI E 64 ew)] (qI E (fun (r : Int32) (u : (Nat → Int32) × (Nat → Int32) × (Nat → Int32) × (Nat → Int32) × (Nat → Int32) × (Nat → Int32) × (Nat → Int32)) => match u with | (gx, gy, gw, gt, fx, fy, fw) => r = 1 ∧ flo (stC k) (2 * n) gx gy gw ∧ (∀ d, d < 2 * n → gt d = 0) ∧ (∀ d, d < 2 * n → fx d = gx d ∧ fy d = gy d ∧ fw d = gw d)) (fun (u : (Nat → Int32) × (Nat → Int32) × (Nat → Int32) × (Nat → Int32) × (Nat → Int32) × (Nat → Int32) × (Nat → Int32)) => match u with | (gx, gy, gw, gt, fx, fy, fw) => [(h0, ob 12 (mfs (updG g 37 (.int (nI (2 * n)))))), ((r 38), aI E 64 gx), ((r 39), aI E 64 gy), ((r 40), aI E 64 gw), ((r 41), aI E 64 gt), ((r 44), aI E 64 fx), ((r 45), aI E 64 fy), ((r 46), aI E 64 fw)])) := by
  refine cM_of (by decide) (Nat.le_of_ble_eq_true rfl) ?_
  intro p e s m below meth c ls A F hA hS hP hD hK hZ hl
  obtain ⟨hx, hb, hr, hml, hown, hts, hlk, hin⟩ := id F
  have hown : s.vm.findClass RX12 = some m.cls := hown
  have hl : lv_has ls 7 [(0, .ref h0), (1, .int (nI k)), (2, .int (nI n))] := hl
  rcases hv with ⟨rfl, rfl⟩ | ⟨hk1, hk3, hn1, hn32⟩
  · refine lv_iload_n hx hb dX12_begins_0 rfl (lv_at hl 1 rfl) ?_
    refine lv_if_ne (tgt := 12) hx hb dX12_begins_1 (by decide) (fun c_7 => absurd (by decide) c_7) (fun c_7 => ?_)
    refine lv_iload_n hx hb dX12_begins_4 rfl (lv_at hl 2 rfl) ?_
    refine lv_iconst (v := nI 4) hx hb dX12_begins_5 (by decide) ?_
    refine lv_icmp_eq (tgt := 33) hx hb dX12_begins_6 (by decide) (fun c_8 => ?_) (fun c_8 => absurd (by decide) c_8)
    refine lv_aload_n hx hb dX12_begins_33 rfl (lv_at hl 0 rfl) ?_
    refine lv_iconst (v := nI 2) hx hb dX12_begins_34 (by decide) ?_
    refine lv_iload_n hx hb dX12_begins_35 rfl (lv_at hl 2 rfl) ?_
    refine lv_imul hx hb dX12_begins_36 ?_
    rw [show ((nI 2) * (nI 4) : Int32) = nI 8 from by decide]
    refine va_put (D := E.1) (ci := 12) (v := .int (nI 8)) (ty := .int) (C := RX12) (T := TX12) (N := 116) hx hb hts iX12 tyX12 tyX12_ok nmX12 hown hK hP hD hS 0 rfl rfl 37 (by decide) (hts _ wdF_RX12_231) (fun _ h9 => h9) rfl (by decide +kernel) rfl rfl (by rw [mfs_len]; decide) dX12_begins_37 (fun H locs hP hD hS => ?_)
    have hP : va_P E.1 vwCl [(h0, ob 12 ((mfs g).set 37 (.int (nI 8)))), ((r 38), aI E 64 mx), ((r 39), aI E 64 my), ((r 40), aI E 64 mw), ((r 41), aI E 64 mt), ((r 44), aI E 64 ex), ((r 45), aI E 64 ey), ((r 46), aI E 64 ew)] H := hP
    have hD : va_D A [(h0, ob 12 ((mfs g).set 37 (.int (nI 8)))), ((r 38), aI E 64 mx), ((r 39), aI E 64 my), ((r 40), aI E 64 mw), ((r 41), aI E 64 mt), ((r 44), aI E 64 ex), ((r 45), aI E 64 ey), ((r 46), aI E 64 ew)] := hD
    rw [mfs_set _ 37 _ (by decide)] at hP hD
    refine lv_iload_n hx hb dX12_begins_40 rfl (lv_at hl 1 rfl) ?_
    refine lv_if_ne (tgt := 118) hx hb dX12_begins_41 (by decide) (fun c_9 => absurd (by decide) c_9) (fun c_9 => ?_)
    refine lv_aload_n hx hb dX12_begins_44 rfl (lv_at hl 0 rfl) ?_
    refine lv_iconst (v := nI 0) hx hb dX12_begins_45 (by decide) ?_
    refine lv_iconst (v := nI 4) hx hb dX12_begins_46 (by decide) ?_
    refine lv_iconst (v := nI 0) hx hb dX12_begins_47 (by decide) ?_
    refine lv_iconst (v := nI 0) hx hb dX12_begins_48 (by decide) ?_
    refine cV_go (wr := [((r 44), aI E 64 ex), ((r 45), aI E 64 ey), ((r 46), aI E 64 ew)]) (cM_runV (As := [.int (nI 0), .int (nI 4), .int (nI 0), .int (nI 0)]) (rest := []) F (c_X12_stands l E h0 r (updG g 37 (.int (nI 8))) mx my mw mt 0 (nI 4) (nI 0) (nI 0) (mOK_u hR rfl) (by decide)) yy_X12_stands yi_X12_stands wdM_RX12_234 hP hD hS hK hZ hA [0, 1, 2, 3, 4] rfl rfl 0 12 rfl rfl rfl hl.1 rfl (Nat.le_of_ble_eq_true rfl) dX12_begins_49 ⟨by decide, by decide⟩ ⟨by decide, by decide⟩) hP hD hS hA [0, 1, 2, 3, 4] [5, 6, 7] rfl rfl rfl (by decide) (fun u_11 H locs hw_10 hP hD hS => ?_)
    try dsimp only at hw_10
    have hP : va_P E.1 vwCl [((r 44), aI E 64 ex), ((r 45), aI E 64 ey), ((r 46), aI E 64 ew), (h0, ob 12 (mfs (updG g 37 (.int (nI 8))))), ((r 38), aI E 64 (upd mx 0 (nI 4))), ((r 39), aI E 64 (upd my 0 (nI 0))), ((r 40), aI E 64 (upd mw 0 (nI 0))), ((r 41), aI E 64 (upd mt 0 (nI 0)))] H := hP
    have hD : va_D A [((r 44), aI E 64 ex), ((r 45), aI E 64 ey), ((r 46), aI E 64 ew), (h0, ob 12 (mfs (updG g 37 (.int (nI 8))))), ((r 38), aI E 64 (upd mx 0 (nI 4))), ((r 39), aI E 64 (upd my 0 (nI 0))), ((r 40), aI E 64 (upd mw 0 (nI 0))), ((r 41), aI E 64 (upd mt 0 (nI 0)))] := hD
    refine lv_aload_n hx hb dX12_begins_52 rfl (lv_at hl 0 rfl) ?_
    refine lv_iconst (v := nI 1) hx hb dX12_begins_53 (by decide) ?_
    refine lv_bipush (v := nI 8) hx hb dX12_begins_54 (by decide) ?_
    refine lv_iconst (v := nI 0) hx hb dX12_begins_56 (by decide) ?_
    refine lv_iconst (v := nI 0) hx hb dX12_begins_57 (by decide) ?_
    refine cV_go (wr := [((r 44), aI E 64 ex), ((r 45), aI E 64 ey), ((r 46), aI E 64 ew)]) (cM_runV (As := [.int (nI 1), .int (nI 8), .int (nI 0), .int (nI 0)]) (rest := []) F (c_X12_stands l E h0 r (updG g 37 (.int (nI 8))) (upd mx 0 (nI 4)) (upd my 0 (nI 0)) (upd mw 0 (nI 0)) (upd mt 0 (nI 0)) 1 (nI 8) (nI 0) (nI 0) (mOK_u hR rfl) (by decide)) yy_X12_stands yi_X12_stands wdM_RX12_234 hP hD hS hK hZ hA [3, 4, 5, 6, 7] rfl rfl 3 12 rfl rfl rfl hl.1 rfl (Nat.le_of_ble_eq_true rfl) dX12_begins_58 ⟨by decide, by decide⟩ ⟨by decide, by decide⟩) hP hD hS hA [3, 4, 5, 6, 7] [0, 1, 2] rfl rfl rfl (by decide) (fun u_14 H locs hw_13 hP hD hS => ?_)
    try dsimp only at hw_13
    have hP : va_P E.1 vwCl [((r 44), aI E 64 ex), ((r 45), aI E 64 ey), ((r 46), aI E 64 ew), (h0, ob 12 (mfs (updG g 37 (.int (nI 8))))), ((r 38), aI E 64 (upd (upd mx 0 (nI 4)) 1 (nI 8))), ((r 39), aI E 64 (upd (upd my 0 (nI 0)) 1 (nI 0))), ((r 40), aI E 64 (upd (upd mw 0 (nI 0)) 1 (nI 0))), ((r 41), aI E 64 (upd (upd mt 0 (nI 0)) 1 (nI 0)))] H := hP
    have hD : va_D A [((r 44), aI E 64 ex), ((r 45), aI E 64 ey), ((r 46), aI E 64 ew), (h0, ob 12 (mfs (updG g 37 (.int (nI 8))))), ((r 38), aI E 64 (upd (upd mx 0 (nI 4)) 1 (nI 8))), ((r 39), aI E 64 (upd (upd my 0 (nI 0)) 1 (nI 0))), ((r 40), aI E 64 (upd (upd mw 0 (nI 0)) 1 (nI 0))), ((r 41), aI E 64 (upd (upd mt 0 (nI 0)) 1 (nI 0)))] := hD
    refine lv_aload_n hx hb dX12_begins_61 rfl (lv_at hl 0 rfl) ?_
    refine lv_iconst (v := nI 2) hx hb dX12_begins_62 (by decide) ?_
    refine lv_bipush (v := nI 12) hx hb dX12_begins_63 (by decide) ?_
    refine lv_iconst (v := nI 4) hx hb dX12_begins_65 (by decide) ?_
    refine lv_iconst (v := nI 3) hx hb dX12_begins_66 (by decide) ?_
    refine cV_go (wr := [((r 44), aI E 64 ex), ((r 45), aI E 64 ey), ((r 46), aI E 64 ew)]) (cM_runV (As := [.int (nI 2), .int (nI 12), .int (nI 4), .int (nI 3)]) (rest := []) F (c_X12_stands l E h0 r (updG g 37 (.int (nI 8))) (upd (upd mx 0 (nI 4)) 1 (nI 8)) (upd (upd my 0 (nI 0)) 1 (nI 0)) (upd (upd mw 0 (nI 0)) 1 (nI 0)) (upd (upd mt 0 (nI 0)) 1 (nI 0)) 2 (nI 12) (nI 4) (nI 3) (mOK_u hR rfl) (by decide)) yy_X12_stands yi_X12_stands wdM_RX12_234 hP hD hS hK hZ hA [3, 4, 5, 6, 7] rfl rfl 3 12 rfl rfl rfl hl.1 rfl (Nat.le_of_ble_eq_true rfl) dX12_begins_67 ⟨by decide, by decide⟩ ⟨by decide, by decide⟩) hP hD hS hA [3, 4, 5, 6, 7] [0, 1, 2] rfl rfl rfl (by decide) (fun u_17 H locs hw_16 hP hD hS => ?_)
    try dsimp only at hw_16
    have hP : va_P E.1 vwCl [((r 44), aI E 64 ex), ((r 45), aI E 64 ey), ((r 46), aI E 64 ew), (h0, ob 12 (mfs (updG g 37 (.int (nI 8))))), ((r 38), aI E 64 (upd (upd (upd mx 0 (nI 4)) 1 (nI 8)) 2 (nI 12))), ((r 39), aI E 64 (upd (upd (upd my 0 (nI 0)) 1 (nI 0)) 2 (nI 4))), ((r 40), aI E 64 (upd (upd (upd mw 0 (nI 0)) 1 (nI 0)) 2 (nI 3))), ((r 41), aI E 64 (upd (upd (upd mt 0 (nI 0)) 1 (nI 0)) 2 (nI 0)))] H := hP
    have hD : va_D A [((r 44), aI E 64 ex), ((r 45), aI E 64 ey), ((r 46), aI E 64 ew), (h0, ob 12 (mfs (updG g 37 (.int (nI 8))))), ((r 38), aI E 64 (upd (upd (upd mx 0 (nI 4)) 1 (nI 8)) 2 (nI 12))), ((r 39), aI E 64 (upd (upd (upd my 0 (nI 0)) 1 (nI 0)) 2 (nI 4))), ((r 40), aI E 64 (upd (upd (upd mw 0 (nI 0)) 1 (nI 0)) 2 (nI 3))), ((r 41), aI E 64 (upd (upd (upd mt 0 (nI 0)) 1 (nI 0)) 2 (nI 0)))] := hD
    refine lv_aload_n hx hb dX12_begins_70 rfl (lv_at hl 0 rfl) ?_
    refine lv_iconst (v := nI 3) hx hb dX12_begins_71 (by decide) ?_
    refine lv_bipush (v := nI 12) hx hb dX12_begins_72 (by decide) ?_
    refine lv_bipush (v := nI 8) hx hb dX12_begins_74 (by decide) ?_
    refine lv_iconst (v := nI 3) hx hb dX12_begins_76 (by decide) ?_
    refine cV_go (wr := [((r 44), aI E 64 ex), ((r 45), aI E 64 ey), ((r 46), aI E 64 ew)]) (cM_runV (As := [.int (nI 3), .int (nI 12), .int (nI 8), .int (nI 3)]) (rest := []) F (c_X12_stands l E h0 r (updG g 37 (.int (nI 8))) (upd (upd (upd mx 0 (nI 4)) 1 (nI 8)) 2 (nI 12)) (upd (upd (upd my 0 (nI 0)) 1 (nI 0)) 2 (nI 4)) (upd (upd (upd mw 0 (nI 0)) 1 (nI 0)) 2 (nI 3)) (upd (upd (upd mt 0 (nI 0)) 1 (nI 0)) 2 (nI 0)) 3 (nI 12) (nI 8) (nI 3) (mOK_u hR rfl) (by decide)) yy_X12_stands yi_X12_stands wdM_RX12_234 hP hD hS hK hZ hA [3, 4, 5, 6, 7] rfl rfl 3 12 rfl rfl rfl hl.1 rfl (Nat.le_of_ble_eq_true rfl) dX12_begins_77 ⟨by decide, by decide⟩ ⟨by decide, by decide⟩) hP hD hS hA [3, 4, 5, 6, 7] [0, 1, 2] rfl rfl rfl (by decide) (fun u_20 H locs hw_19 hP hD hS => ?_)
    try dsimp only at hw_19
    have hP : va_P E.1 vwCl [((r 44), aI E 64 ex), ((r 45), aI E 64 ey), ((r 46), aI E 64 ew), (h0, ob 12 (mfs (updG g 37 (.int (nI 8))))), ((r 38), aI E 64 (upd (upd (upd (upd mx 0 (nI 4)) 1 (nI 8)) 2 (nI 12)) 3 (nI 12))), ((r 39), aI E 64 (upd (upd (upd (upd my 0 (nI 0)) 1 (nI 0)) 2 (nI 4)) 3 (nI 8))), ((r 40), aI E 64 (upd (upd (upd (upd mw 0 (nI 0)) 1 (nI 0)) 2 (nI 3)) 3 (nI 3))), ((r 41), aI E 64 (upd (upd (upd (upd mt 0 (nI 0)) 1 (nI 0)) 2 (nI 0)) 3 (nI 0)))] H := hP
    have hD : va_D A [((r 44), aI E 64 ex), ((r 45), aI E 64 ey), ((r 46), aI E 64 ew), (h0, ob 12 (mfs (updG g 37 (.int (nI 8))))), ((r 38), aI E 64 (upd (upd (upd (upd mx 0 (nI 4)) 1 (nI 8)) 2 (nI 12)) 3 (nI 12))), ((r 39), aI E 64 (upd (upd (upd (upd my 0 (nI 0)) 1 (nI 0)) 2 (nI 4)) 3 (nI 8))), ((r 40), aI E 64 (upd (upd (upd (upd mw 0 (nI 0)) 1 (nI 0)) 2 (nI 3)) 3 (nI 3))), ((r 41), aI E 64 (upd (upd (upd (upd mt 0 (nI 0)) 1 (nI 0)) 2 (nI 0)) 3 (nI 0)))] := hD
    refine lv_aload_n hx hb dX12_begins_80 rfl (lv_at hl 0 rfl) ?_
    refine lv_iconst (v := nI 4) hx hb dX12_begins_81 (by decide) ?_
    refine lv_bipush (v := nI 8) hx hb dX12_begins_82 (by decide) ?_
    refine lv_bipush (v := nI 12) hx hb dX12_begins_84 (by decide) ?_
    refine lv_iconst (v := nI 2) hx hb dX12_begins_86 (by decide) ?_
    refine cV_go (wr := [((r 44), aI E 64 ex), ((r 45), aI E 64 ey), ((r 46), aI E 64 ew)]) (cM_runV (As := [.int (nI 4), .int (nI 8), .int (nI 12), .int (nI 2)]) (rest := []) F (c_X12_stands l E h0 r (updG g 37 (.int (nI 8))) (upd (upd (upd (upd mx 0 (nI 4)) 1 (nI 8)) 2 (nI 12)) 3 (nI 12)) (upd (upd (upd (upd my 0 (nI 0)) 1 (nI 0)) 2 (nI 4)) 3 (nI 8)) (upd (upd (upd (upd mw 0 (nI 0)) 1 (nI 0)) 2 (nI 3)) 3 (nI 3)) (upd (upd (upd (upd mt 0 (nI 0)) 1 (nI 0)) 2 (nI 0)) 3 (nI 0)) 4 (nI 8) (nI 12) (nI 2) (mOK_u hR rfl) (by decide)) yy_X12_stands yi_X12_stands wdM_RX12_234 hP hD hS hK hZ hA [3, 4, 5, 6, 7] rfl rfl 3 12 rfl rfl rfl hl.1 rfl (Nat.le_of_ble_eq_true rfl) dX12_begins_87 ⟨by decide, by decide⟩ ⟨by decide, by decide⟩) hP hD hS hA [3, 4, 5, 6, 7] [0, 1, 2] rfl rfl rfl (by decide) (fun u_23 H locs hw_22 hP hD hS => ?_)
    try dsimp only at hw_22
    have hP : va_P E.1 vwCl [((r 44), aI E 64 ex), ((r 45), aI E 64 ey), ((r 46), aI E 64 ew), (h0, ob 12 (mfs (updG g 37 (.int (nI 8))))), ((r 38), aI E 64 (upd (upd (upd (upd (upd mx 0 (nI 4)) 1 (nI 8)) 2 (nI 12)) 3 (nI 12)) 4 (nI 8))), ((r 39), aI E 64 (upd (upd (upd (upd (upd my 0 (nI 0)) 1 (nI 0)) 2 (nI 4)) 3 (nI 8)) 4 (nI 12))), ((r 40), aI E 64 (upd (upd (upd (upd (upd mw 0 (nI 0)) 1 (nI 0)) 2 (nI 3)) 3 (nI 3)) 4 (nI 2))), ((r 41), aI E 64 (upd (upd (upd (upd (upd mt 0 (nI 0)) 1 (nI 0)) 2 (nI 0)) 3 (nI 0)) 4 (nI 0)))] H := hP
    have hD : va_D A [((r 44), aI E 64 ex), ((r 45), aI E 64 ey), ((r 46), aI E 64 ew), (h0, ob 12 (mfs (updG g 37 (.int (nI 8))))), ((r 38), aI E 64 (upd (upd (upd (upd (upd mx 0 (nI 4)) 1 (nI 8)) 2 (nI 12)) 3 (nI 12)) 4 (nI 8))), ((r 39), aI E 64 (upd (upd (upd (upd (upd my 0 (nI 0)) 1 (nI 0)) 2 (nI 4)) 3 (nI 8)) 4 (nI 12))), ((r 40), aI E 64 (upd (upd (upd (upd (upd mw 0 (nI 0)) 1 (nI 0)) 2 (nI 3)) 3 (nI 3)) 4 (nI 2))), ((r 41), aI E 64 (upd (upd (upd (upd (upd mt 0 (nI 0)) 1 (nI 0)) 2 (nI 0)) 3 (nI 0)) 4 (nI 0)))] := hD
    refine lv_aload_n hx hb dX12_begins_90 rfl (lv_at hl 0 rfl) ?_
    refine lv_iconst (v := nI 5) hx hb dX12_begins_91 (by decide) ?_
    refine lv_iconst (v := nI 4) hx hb dX12_begins_92 (by decide) ?_
    refine lv_bipush (v := nI 12) hx hb dX12_begins_93 (by decide) ?_
    refine lv_iconst (v := nI 2) hx hb dX12_begins_95 (by decide) ?_
    refine cV_go (wr := [((r 44), aI E 64 ex), ((r 45), aI E 64 ey), ((r 46), aI E 64 ew)]) (cM_runV (As := [.int (nI 5), .int (nI 4), .int (nI 12), .int (nI 2)]) (rest := []) F (c_X12_stands l E h0 r (updG g 37 (.int (nI 8))) (upd (upd (upd (upd (upd mx 0 (nI 4)) 1 (nI 8)) 2 (nI 12)) 3 (nI 12)) 4 (nI 8)) (upd (upd (upd (upd (upd my 0 (nI 0)) 1 (nI 0)) 2 (nI 4)) 3 (nI 8)) 4 (nI 12)) (upd (upd (upd (upd (upd mw 0 (nI 0)) 1 (nI 0)) 2 (nI 3)) 3 (nI 3)) 4 (nI 2)) (upd (upd (upd (upd (upd mt 0 (nI 0)) 1 (nI 0)) 2 (nI 0)) 3 (nI 0)) 4 (nI 0)) 5 (nI 4) (nI 12) (nI 2) (mOK_u hR rfl) (by decide)) yy_X12_stands yi_X12_stands wdM_RX12_234 hP hD hS hK hZ hA [3, 4, 5, 6, 7] rfl rfl 3 12 rfl rfl rfl hl.1 rfl (Nat.le_of_ble_eq_true rfl) dX12_begins_96 ⟨by decide, by decide⟩ ⟨by decide, by decide⟩) hP hD hS hA [3, 4, 5, 6, 7] [0, 1, 2] rfl rfl rfl (by decide) (fun u_26 H locs hw_25 hP hD hS => ?_)
    try dsimp only at hw_25
    have hP : va_P E.1 vwCl [((r 44), aI E 64 ex), ((r 45), aI E 64 ey), ((r 46), aI E 64 ew), (h0, ob 12 (mfs (updG g 37 (.int (nI 8))))), ((r 38), aI E 64 (upd (upd (upd (upd (upd (upd mx 0 (nI 4)) 1 (nI 8)) 2 (nI 12)) 3 (nI 12)) 4 (nI 8)) 5 (nI 4))), ((r 39), aI E 64 (upd (upd (upd (upd (upd (upd my 0 (nI 0)) 1 (nI 0)) 2 (nI 4)) 3 (nI 8)) 4 (nI 12)) 5 (nI 12))), ((r 40), aI E 64 (upd (upd (upd (upd (upd (upd mw 0 (nI 0)) 1 (nI 0)) 2 (nI 3)) 3 (nI 3)) 4 (nI 2)) 5 (nI 2))), ((r 41), aI E 64 (upd (upd (upd (upd (upd (upd mt 0 (nI 0)) 1 (nI 0)) 2 (nI 0)) 3 (nI 0)) 4 (nI 0)) 5 (nI 0)))] H := hP
    have hD : va_D A [((r 44), aI E 64 ex), ((r 45), aI E 64 ey), ((r 46), aI E 64 ew), (h0, ob 12 (mfs (updG g 37 (.int (nI 8))))), ((r 38), aI E 64 (upd (upd (upd (upd (upd (upd mx 0 (nI 4)) 1 (nI 8)) 2 (nI 12)) 3 (nI 12)) 4 (nI 8)) 5 (nI 4))), ((r 39), aI E 64 (upd (upd (upd (upd (upd (upd my 0 (nI 0)) 1 (nI 0)) 2 (nI 4)) 3 (nI 8)) 4 (nI 12)) 5 (nI 12))), ((r 40), aI E 64 (upd (upd (upd (upd (upd (upd mw 0 (nI 0)) 1 (nI 0)) 2 (nI 3)) 3 (nI 3)) 4 (nI 2)) 5 (nI 2))), ((r 41), aI E 64 (upd (upd (upd (upd (upd (upd mt 0 (nI 0)) 1 (nI 0)) 2 (nI 0)) 3 (nI 0)) 4 (nI 0)) 5 (nI 0)))] := hD
    refine lv_aload_n hx hb dX12_begins_99 rfl (lv_at hl 0 rfl) ?_
    refine lv_bipush (v := nI 6) hx hb dX12_begins_100 (by decide) ?_
    refine lv_iconst (v := nI 0) hx hb dX12_begins_102 (by decide) ?_
    refine lv_bipush (v := nI 8) hx hb dX12_begins_103 (by decide) ?_
    refine lv_iconst (v := nI 1) hx hb dX12_begins_105 (by decide) ?_
    refine cV_go (wr := [((r 44), aI E 64 ex), ((r 45), aI E 64 ey), ((r 46), aI E 64 ew)]) (cM_runV (As := [.int (nI 6), .int (nI 0), .int (nI 8), .int (nI 1)]) (rest := []) F (c_X12_stands l E h0 r (updG g 37 (.int (nI 8))) (upd (upd (upd (upd (upd (upd mx 0 (nI 4)) 1 (nI 8)) 2 (nI 12)) 3 (nI 12)) 4 (nI 8)) 5 (nI 4)) (upd (upd (upd (upd (upd (upd my 0 (nI 0)) 1 (nI 0)) 2 (nI 4)) 3 (nI 8)) 4 (nI 12)) 5 (nI 12)) (upd (upd (upd (upd (upd (upd mw 0 (nI 0)) 1 (nI 0)) 2 (nI 3)) 3 (nI 3)) 4 (nI 2)) 5 (nI 2)) (upd (upd (upd (upd (upd (upd mt 0 (nI 0)) 1 (nI 0)) 2 (nI 0)) 3 (nI 0)) 4 (nI 0)) 5 (nI 0)) 6 (nI 0) (nI 8) (nI 1) (mOK_u hR rfl) (by decide)) yy_X12_stands yi_X12_stands wdM_RX12_234 hP hD hS hK hZ hA [3, 4, 5, 6, 7] rfl rfl 3 12 rfl rfl rfl hl.1 rfl (Nat.le_of_ble_eq_true rfl) dX12_begins_106 ⟨by decide, by decide⟩ ⟨by decide, by decide⟩) hP hD hS hA [3, 4, 5, 6, 7] [0, 1, 2] rfl rfl rfl (by decide) (fun u_29 H locs hw_28 hP hD hS => ?_)
    try dsimp only at hw_28
    have hP : va_P E.1 vwCl [((r 44), aI E 64 ex), ((r 45), aI E 64 ey), ((r 46), aI E 64 ew), (h0, ob 12 (mfs (updG g 37 (.int (nI 8))))), ((r 38), aI E 64 (upd (upd (upd (upd (upd (upd (upd mx 0 (nI 4)) 1 (nI 8)) 2 (nI 12)) 3 (nI 12)) 4 (nI 8)) 5 (nI 4)) 6 (nI 0))), ((r 39), aI E 64 (upd (upd (upd (upd (upd (upd (upd my 0 (nI 0)) 1 (nI 0)) 2 (nI 4)) 3 (nI 8)) 4 (nI 12)) 5 (nI 12)) 6 (nI 8))), ((r 40), aI E 64 (upd (upd (upd (upd (upd (upd (upd mw 0 (nI 0)) 1 (nI 0)) 2 (nI 3)) 3 (nI 3)) 4 (nI 2)) 5 (nI 2)) 6 (nI 1))), ((r 41), aI E 64 (upd (upd (upd (upd (upd (upd (upd mt 0 (nI 0)) 1 (nI 0)) 2 (nI 0)) 3 (nI 0)) 4 (nI 0)) 5 (nI 0)) 6 (nI 0)))] H := hP
    have hD : va_D A [((r 44), aI E 64 ex), ((r 45), aI E 64 ey), ((r 46), aI E 64 ew), (h0, ob 12 (mfs (updG g 37 (.int (nI 8))))), ((r 38), aI E 64 (upd (upd (upd (upd (upd (upd (upd mx 0 (nI 4)) 1 (nI 8)) 2 (nI 12)) 3 (nI 12)) 4 (nI 8)) 5 (nI 4)) 6 (nI 0))), ((r 39), aI E 64 (upd (upd (upd (upd (upd (upd (upd my 0 (nI 0)) 1 (nI 0)) 2 (nI 4)) 3 (nI 8)) 4 (nI 12)) 5 (nI 12)) 6 (nI 8))), ((r 40), aI E 64 (upd (upd (upd (upd (upd (upd (upd mw 0 (nI 0)) 1 (nI 0)) 2 (nI 3)) 3 (nI 3)) 4 (nI 2)) 5 (nI 2)) 6 (nI 1))), ((r 41), aI E 64 (upd (upd (upd (upd (upd (upd (upd mt 0 (nI 0)) 1 (nI 0)) 2 (nI 0)) 3 (nI 0)) 4 (nI 0)) 5 (nI 0)) 6 (nI 0)))] := hD
    refine lv_aload_n hx hb dX12_begins_109 rfl (lv_at hl 0 rfl) ?_
    refine lv_bipush (v := nI 7) hx hb dX12_begins_110 (by decide) ?_
    refine lv_iconst (v := nI 0) hx hb dX12_begins_112 (by decide) ?_
    refine lv_iconst (v := nI 4) hx hb dX12_begins_113 (by decide) ?_
    refine lv_iconst (v := nI 1) hx hb dX12_begins_114 (by decide) ?_
    refine cV_go (wr := [((r 44), aI E 64 ex), ((r 45), aI E 64 ey), ((r 46), aI E 64 ew)]) (cM_runV (As := [.int (nI 7), .int (nI 0), .int (nI 4), .int (nI 1)]) (rest := []) F (c_X12_stands l E h0 r (updG g 37 (.int (nI 8))) (upd (upd (upd (upd (upd (upd (upd mx 0 (nI 4)) 1 (nI 8)) 2 (nI 12)) 3 (nI 12)) 4 (nI 8)) 5 (nI 4)) 6 (nI 0)) (upd (upd (upd (upd (upd (upd (upd my 0 (nI 0)) 1 (nI 0)) 2 (nI 4)) 3 (nI 8)) 4 (nI 12)) 5 (nI 12)) 6 (nI 8)) (upd (upd (upd (upd (upd (upd (upd mw 0 (nI 0)) 1 (nI 0)) 2 (nI 3)) 3 (nI 3)) 4 (nI 2)) 5 (nI 2)) 6 (nI 1)) (upd (upd (upd (upd (upd (upd (upd mt 0 (nI 0)) 1 (nI 0)) 2 (nI 0)) 3 (nI 0)) 4 (nI 0)) 5 (nI 0)) 6 (nI 0)) 7 (nI 0) (nI 4) (nI 1) (mOK_u hR rfl) (by decide)) yy_X12_stands yi_X12_stands wdM_RX12_234 hP hD hS hK hZ hA [3, 4, 5, 6, 7] rfl rfl 3 12 rfl rfl rfl hl.1 rfl (Nat.le_of_ble_eq_true rfl) dX12_begins_115 ⟨by decide, by decide⟩ ⟨by decide, by decide⟩) hP hD hS hA [3, 4, 5, 6, 7] [0, 1, 2] rfl rfl rfl (by decide) (fun u_32 H locs hw_31 hP hD hS => ?_)
    try dsimp only at hw_31
    have hP : va_P E.1 vwCl [((r 44), aI E 64 ex), ((r 45), aI E 64 ey), ((r 46), aI E 64 ew), (h0, ob 12 (mfs (updG g 37 (.int (nI 8))))), ((r 38), aI E 64 (upd (upd (upd (upd (upd (upd (upd (upd mx 0 (nI 4)) 1 (nI 8)) 2 (nI 12)) 3 (nI 12)) 4 (nI 8)) 5 (nI 4)) 6 (nI 0)) 7 (nI 0))), ((r 39), aI E 64 (upd (upd (upd (upd (upd (upd (upd (upd my 0 (nI 0)) 1 (nI 0)) 2 (nI 4)) 3 (nI 8)) 4 (nI 12)) 5 (nI 12)) 6 (nI 8)) 7 (nI 4))), ((r 40), aI E 64 (upd (upd (upd (upd (upd (upd (upd (upd mw 0 (nI 0)) 1 (nI 0)) 2 (nI 3)) 3 (nI 3)) 4 (nI 2)) 5 (nI 2)) 6 (nI 1)) 7 (nI 1))), ((r 41), aI E 64 (upd (upd (upd (upd (upd (upd (upd (upd mt 0 (nI 0)) 1 (nI 0)) 2 (nI 0)) 3 (nI 0)) 4 (nI 0)) 5 (nI 0)) 6 (nI 0)) 7 (nI 0)))] H := hP
    have hD : va_D A [((r 44), aI E 64 ex), ((r 45), aI E 64 ey), ((r 46), aI E 64 ew), (h0, ob 12 (mfs (updG g 37 (.int (nI 8))))), ((r 38), aI E 64 (upd (upd (upd (upd (upd (upd (upd (upd mx 0 (nI 4)) 1 (nI 8)) 2 (nI 12)) 3 (nI 12)) 4 (nI 8)) 5 (nI 4)) 6 (nI 0)) 7 (nI 0))), ((r 39), aI E 64 (upd (upd (upd (upd (upd (upd (upd (upd my 0 (nI 0)) 1 (nI 0)) 2 (nI 4)) 3 (nI 8)) 4 (nI 12)) 5 (nI 12)) 6 (nI 8)) 7 (nI 4))), ((r 40), aI E 64 (upd (upd (upd (upd (upd (upd (upd (upd mw 0 (nI 0)) 1 (nI 0)) 2 (nI 3)) 3 (nI 3)) 4 (nI 2)) 5 (nI 2)) 6 (nI 1)) 7 (nI 1))), ((r 41), aI E 64 (upd (upd (upd (upd (upd (upd (upd (upd mt 0 (nI 0)) 1 (nI 0)) 2 (nI 0)) 3 (nI 0)) 4 (nI 0)) 5 (nI 0)) 6 (nI 0)) 7 (nI 0)))] := hD
    refine lv_iconst (v := nI 0) hx hb dX12_begins_118 (by decide) ?_
    refine lv_istore_n (lv' := [(3, .int (nI 0)), (0, .ref h0), (1, .int (nI 0)), (2, .int (nI 4))]) hx hb dX12_begins_119 rfl hl (by decide) rfl (fun ls hl => ?_)
    refine lv_iload_n hx hb dX12_begins_120 rfl (lv_at hl 0 rfl) ?_
    refine lv_iload_n hx hb dX12_begins_121 rfl (lv_at hl 3 rfl) ?_
    refine lv_icmp_ge (tgt := 343) hx hb dX12_begins_122 (by decide) (fun c_34 => absurd c_34 (by decide)) (fun c_34 => ?_)
    refine lv_iload_n hx hb dX12_begins_125 rfl (lv_at hl 2 rfl) ?_
    refine lv_if_le (tgt := 343) hx hb dX12_begins_126 (by decide) (fun c_35 => ?_) (fun c_35 => absurd (by decide) c_35)
    refine lv_iconst (v := nI 0) hx hb dX12_begins_343 (by decide) ?_
    refine lv_istore_n (lv' := [(3, .int (nI 0)), (0, .ref h0), (1, .int (nI 0)), (2, .int (nI 4))]) hx hb dX12_begins_344 rfl hl (by decide) rfl (fun ls hl => ?_)
    obtain ⟨gx, hgx⟩ : ∃ z : Nat → Int32, z = upd (upd (upd (upd (upd (upd (upd (upd mx 0 (nI 4)) 1 (nI 8)) 2 (nI 12)) 3 (nI 12)) 4 (nI 8)) 5 (nI 4)) 6 (nI 0)) 7 (nI 0) := ⟨_, rfl⟩
    obtain ⟨gy, hgy⟩ : ∃ z : Nat → Int32, z = upd (upd (upd (upd (upd (upd (upd (upd my 0 (nI 0)) 1 (nI 0)) 2 (nI 4)) 3 (nI 8)) 4 (nI 12)) 5 (nI 12)) 6 (nI 8)) 7 (nI 4) := ⟨_, rfl⟩
    obtain ⟨gw, hgw⟩ : ∃ z : Nat → Int32, z = upd (upd (upd (upd (upd (upd (upd (upd mw 0 (nI 0)) 1 (nI 0)) 2 (nI 3)) 3 (nI 3)) 4 (nI 2)) 5 (nI 2)) 6 (nI 1)) 7 (nI 1) := ⟨_, rfl⟩
    obtain ⟨gt, hgt⟩ : ∃ z : Nat → Int32, z = upd (upd (upd (upd (upd (upd (upd (upd mt 0 (nI 0)) 1 (nI 0)) 2 (nI 0)) 3 (nI 0)) 4 (nI 0)) 5 (nI 0)) 6 (nI 0)) 7 (nI 0) := ⟨_, rfl⟩
    rw [← hgx, ← hgy, ← hgw, ← hgt] at hP hD
    have hfl : flo (stC 0) (2 * 4) gx gy gw := by rw [hgx, hgy, hgw]; exact (fun d hd => sq_flo d hd)
    have hft : ∀ d, d < 2 * 4 → gt d = 0 := by rw [hgt]; exact (fun d hd => sq_trn d hd)
    have hP : va_P E.1 vwCl [((r 44), aI E 64 ex), ((r 45), aI E 64 ey), ((r 46), aI E 64 ew), (h0, ob 12 (mfs (updG g 37 (.int (nI 8))))), ((r 38), aI E 64 gx), ((r 39), aI E 64 gy), ((r 40), aI E 64 gw), ((r 41), aI E 64 gt)] H := hP
    have hD : va_D A [((r 44), aI E 64 ex), ((r 45), aI E 64 ey), ((r 46), aI E 64 ew), (h0, ob 12 (mfs (updG g 37 (.int (nI 8))))), ((r 38), aI E 64 gx), ((r 39), aI E 64 gy), ((r 40), aI E 64 gw), ((r 41), aI E 64 gt)] := hD
    have lh : ∀ (n_lh : Nat) (i : Nat) (fx : Nat → Int32) (fy : Nat → Int32) (fw : Nat → Int32) (hn9 : 2 * 4 + 1 ≤ i + n_lh) (hi : i ≤ 2 * 4) (hg9 : ∀ d, d < i → fx d = gx d ∧ fy d = gy d ∧ fw d = gw d) (H : Heap) (locs : List Loc) (ls : Array Slot), va_P E.1 vwCl [((r 44), aI E 64 fx), ((r 45), aI E 64 fy), ((r 46), aI E 64 fw), (h0, ob 12 (mfs (updG g 37 (.int (nI 8))))), ((r 38), aI E 64 gx), ((r 39), aI E 64 gy), ((r 40), aI E 64 gw), ((r 41), aI E 64 gt)] H → va_D A [((r 44), aI E 64 fx), ((r 45), aI E 64 fy), ((r 46), aI E 64 fw), (h0, ob 12 (mfs (updG g 37 (.int (nI 8))))), ((r 38), aI E 64 gx), ((r 39), aI E 64 gy), ((r 40), aI E 64 gw), ((r 41), aI E 64 gt)] → va_S A s.heap H locs → lv_has ls 7 [(0, .ref h0), (1, .int (nI 0)), (2, .int (nI 4)), (3, .int (nI i))] → W p l e rm_c_X12_begins s m ([.ref h0, .int (nI 0), .int (nI 4)] : List Value).toArray below meth c H locs 0 0 (MQ below ((qI E (fun (r : Int32) (u : (Nat → Int32) × (Nat → Int32) × (Nat → Int32) × (Nat → Int32) × (Nat → Int32) × (Nat → Int32) × (Nat → Int32)) => match u with | (gx, gy, gw, gt, fx, fy, fw) => r = 1 ∧ flo (stC 0) (2 * 4) gx gy gw ∧ (∀ d, d < 2 * 4 → gt d = 0) ∧ (∀ d, d < 2 * 4 → fx d = gx d ∧ fy d = gy d ∧ fw d = gw d)) (fun (u : (Nat → Int32) × (Nat → Int32) × (Nat → Int32) × (Nat → Int32) × (Nat → Int32) × (Nat → Int32) × (Nat → Int32)) => match u with | (gx, gy, gw, gt, fx, fy, fw) => [(h0, ob 12 (mfs (updG g 37 (.int (nI (2 * 4)))))), ((r 38), aI E 64 gx), ((r 39), aI E 64 gy), ((r 40), aI E 64 gw), ((r 41), aI E 64 gt), ((r 44), aI E 64 fx), ((r 45), aI E 64 fy), ((r 46), aI E 64 fw)])) A) ([.ref h0, .int (nI 0), .int (nI 4)] : List Value).toArray s (rm_c_X12_begins).cells (rm_c_X12_begins).slots A) (F0 m 345 ls []) := by
      intro n_lh
      induction n_lh with
      | zero =>
        intro i fx fy fw hn9 hi hg9
        exfalso; omega
      | succ n_lh ih_lh =>
        intro i fx fy fw hn9 hi hg9 H locs ls hP hD hS hl
        refine lv_iload_n hx hb dX12_begins_345 rfl (lv_at hl 3 rfl) ?_
        refine lv_aload_n hx hb dX12_begins_346 rfl (lv_at hl 0 rfl) ?_
        refine va_get (D := E.1) (ci := 12) (v := .int (nI 8)) (C := RX12) (T := TX12) (N := 116) hx hb hts iX12 hown hK hP 3 rfl rfl 37 (by decide) (hts _ wdF_RX12_231) (fun _ h9 => h9) ((mfs_get _ 37 (by decide)).trans (congrArg some (show ((updG g 37 (.int (nI 8)))) 37 = .int (nI 8) from rfl))) dX12_begins_347 ?_
        refine lv_icmp_ge (tgt := 395) hx hb dX12_begins_350 (by decide) (fun d1 => ?_) (fun d1 => ?_)
        · have d2 : 2 * 4 ≤ i := (nI_leI (by omega) (by omega)).mp d1
          refine lv_iconst (v := nI 1) hx hb dX12_begins_395 (by decide) ?_
          exact cB_ret F hP hD hS hK (by decide) (gx, gy, gw, gt, fx, fy, fw) ⟨rfl, hfl, hft, fun d hd => hg9 d (by omega)⟩ [3, 4, 5, 6, 7, 0, 1, 2] rfl rfl dX12_begins_396 (by decide) (by decide)
        · have d2 : i < 2 * 4 := Nat.lt_of_not_le (fun h => d1 (nI_le h (by omega)))
          refine lv_aload_n hx hb dX12_begins_353 rfl (lv_at hl 0 rfl) ?_
          refine va_get (D := E.1) (ci := 12) (v := .ref (r 44)) (C := RX12) (T := TX12) (N := 116) hx hb hts iX12 hown hK hP 3 rfl rfl 44 (by decide) (hts _ wdF_RX12_83) (fun _ h9 => h9) ((mfs_get _ 44 (by decide)).trans (congrArg some (show ((updG g 37 (.int (nI 8)))) 44 = .ref (r 44) from (hR 44 rfl)))) dX12_begins_354 ?_
          refine lv_iload_n hx hb dX12_begins_357 rfl (lv_at hl 3 rfl) ?_
          refine lv_aload_n hx hb dX12_begins_358 rfl (lv_at hl 0 rfl) ?_
          refine va_get (D := E.1) (ci := 12) (v := .ref (r 38)) (C := RX12) (T := TX12) (N := 116) hx hb hts iX12 hown hK hP 3 rfl rfl 38 (by decide) (hts _ wdF_RX12_71) (fun _ h9 => h9) ((mfs_get _ 38 (by decide)).trans (congrArg some (show ((updG g 37 (.int (nI 8)))) 38 = .ref (r 38) from (hR 38 rfl)))) dX12_begins_359 ?_
          refine lv_iload_n hx hb dX12_begins_362 rfl (lv_at hl 3 rfl) ?_
          refine va_iald hx hb hK hP 4 1 rfl rfl (vp_in_nI (by omega) (by decide)) dX12_begins_363 ?_
          rw [nI_clamp (n := i) (by omega)]
          refine va_iast hx hb hK hP hD hS 0 1 rfl rfl (vp_in_nI (by omega) (by decide)) dX12_begins_364 (fun H locs hP hD hS => ?_)
          have hP : va_P E.1 vwCl [((r 44), aI E 64 (upd fx (nI i).toNatClampNeg (gx i))), ((r 45), aI E 64 fy), ((r 46), aI E 64 fw), (h0, ob 12 (mfs (updG g 37 (.int (nI 8))))), ((r 38), aI E 64 gx), ((r 39), aI E 64 gy), ((r 40), aI E 64 gw), ((r 41), aI E 64 gt)] H := hP
          have hD : va_D A [((r 44), aI E 64 (upd fx (nI i).toNatClampNeg (gx i))), ((r 45), aI E 64 fy), ((r 46), aI E 64 fw), (h0, ob 12 (mfs (updG g 37 (.int (nI 8))))), ((r 38), aI E 64 gx), ((r 39), aI E 64 gy), ((r 40), aI E 64 gw), ((r 41), aI E 64 gt)] := hD
          rw [nI_clamp (n := i) (by omega)] at hP hD
          refine lv_aload_n hx hb dX12_begins_365 rfl (lv_at hl 0 rfl) ?_
          refine va_get (D := E.1) (ci := 12) (v := .ref (r 45)) (C := RX12) (T := TX12) (N := 116) hx hb hts iX12 hown hK hP 3 rfl rfl 45 (by decide) (hts _ wdF_RX12_86) (fun _ h9 => h9) ((mfs_get _ 45 (by decide)).trans (congrArg some (show ((updG g 37 (.int (nI 8)))) 45 = .ref (r 45) from (hR 45 rfl)))) dX12_begins_366 ?_
          refine lv_iload_n hx hb dX12_begins_369 rfl (lv_at hl 3 rfl) ?_
          refine lv_aload_n hx hb dX12_begins_370 rfl (lv_at hl 0 rfl) ?_
          refine va_get (D := E.1) (ci := 12) (v := .ref (r 39)) (C := RX12) (T := TX12) (N := 116) hx hb hts iX12 hown hK hP 3 rfl rfl 39 (by decide) (hts _ wdF_RX12_74) (fun _ h9 => h9) ((mfs_get _ 39 (by decide)).trans (congrArg some (show ((updG g 37 (.int (nI 8)))) 39 = .ref (r 39) from (hR 39 rfl)))) dX12_begins_371 ?_
          refine lv_iload_n hx hb dX12_begins_374 rfl (lv_at hl 3 rfl) ?_
          refine va_iald hx hb hK hP 5 1 rfl rfl (vp_in_nI (by omega) (by decide)) dX12_begins_375 ?_
          rw [nI_clamp (n := i) (by omega)]
          refine va_iast hx hb hK hP hD hS 1 1 rfl rfl (vp_in_nI (by omega) (by decide)) dX12_begins_376 (fun H locs hP hD hS => ?_)
          have hP : va_P E.1 vwCl [((r 44), aI E 64 (upd fx i (gx i))), ((r 45), aI E 64 (upd fy (nI i).toNatClampNeg (gy i))), ((r 46), aI E 64 fw), (h0, ob 12 (mfs (updG g 37 (.int (nI 8))))), ((r 38), aI E 64 gx), ((r 39), aI E 64 gy), ((r 40), aI E 64 gw), ((r 41), aI E 64 gt)] H := hP
          have hD : va_D A [((r 44), aI E 64 (upd fx i (gx i))), ((r 45), aI E 64 (upd fy (nI i).toNatClampNeg (gy i))), ((r 46), aI E 64 fw), (h0, ob 12 (mfs (updG g 37 (.int (nI 8))))), ((r 38), aI E 64 gx), ((r 39), aI E 64 gy), ((r 40), aI E 64 gw), ((r 41), aI E 64 gt)] := hD
          rw [nI_clamp (n := i) (by omega)] at hP hD
          refine lv_aload_n hx hb dX12_begins_377 rfl (lv_at hl 0 rfl) ?_
          refine va_get (D := E.1) (ci := 12) (v := .ref (r 46)) (C := RX12) (T := TX12) (N := 116) hx hb hts iX12 hown hK hP 3 rfl rfl 46 (by decide) (hts _ wdF_RX12_89) (fun _ h9 => h9) ((mfs_get _ 46 (by decide)).trans (congrArg some (show ((updG g 37 (.int (nI 8)))) 46 = .ref (r 46) from (hR 46 rfl)))) dX12_begins_378 ?_
          refine lv_iload_n hx hb dX12_begins_381 rfl (lv_at hl 3 rfl) ?_
          refine lv_aload_n hx hb dX12_begins_382 rfl (lv_at hl 0 rfl) ?_
          refine va_get (D := E.1) (ci := 12) (v := .ref (r 40)) (C := RX12) (T := TX12) (N := 116) hx hb hts iX12 hown hK hP 3 rfl rfl 40 (by decide) (hts _ wdF_RX12_77) (fun _ h9 => h9) ((mfs_get _ 40 (by decide)).trans (congrArg some (show ((updG g 37 (.int (nI 8)))) 40 = .ref (r 40) from (hR 40 rfl)))) dX12_begins_383 ?_
          refine lv_iload_n hx hb dX12_begins_386 rfl (lv_at hl 3 rfl) ?_
          refine va_iald hx hb hK hP 6 1 rfl rfl (vp_in_nI (by omega) (by decide)) dX12_begins_387 ?_
          rw [nI_clamp (n := i) (by omega)]
          refine va_iast hx hb hK hP hD hS 2 1 rfl rfl (vp_in_nI (by omega) (by decide)) dX12_begins_388 (fun H locs hP hD hS => ?_)
          have hP : va_P E.1 vwCl [((r 44), aI E 64 (upd fx i (gx i))), ((r 45), aI E 64 (upd fy i (gy i))), ((r 46), aI E 64 (upd fw (nI i).toNatClampNeg (gw i))), (h0, ob 12 (mfs (updG g 37 (.int (nI 8))))), ((r 38), aI E 64 gx), ((r 39), aI E 64 gy), ((r 40), aI E 64 gw), ((r 41), aI E 64 gt)] H := hP
          have hD : va_D A [((r 44), aI E 64 (upd fx i (gx i))), ((r 45), aI E 64 (upd fy i (gy i))), ((r 46), aI E 64 (upd fw (nI i).toNatClampNeg (gw i))), (h0, ob 12 (mfs (updG g 37 (.int (nI 8))))), ((r 38), aI E 64 gx), ((r 39), aI E 64 gy), ((r 40), aI E 64 gw), ((r 41), aI E 64 gt)] := hD
          rw [nI_clamp (n := i) (by omega)] at hP hD
          refine lv_iinc (v := nI (i + 1)) (lv' := [(3, .int (nI (i + 1))), (0, .ref h0), (1, .int (nI 0)), (2, .int (nI 4))]) hx hb dX12_begins_389 hl (k := 3) rfl (nI_1 i) (by decide) rfl (fun ls hl => ?_)
          refine lv_goto (tgt := 345) hx hb dX12_begins_392 (by decide) ?_
          exact ih_lh (i + 1) (upd fx i (gx i)) (upd fy i (gy i)) (upd fw i (gw i)) (by omega) (by omega) (fun d hd => (Decidable.em (d = i)).elim (fun h => by rw [h]; exact ⟨pk_us, pk_us, pk_us⟩) (fun h => by rw [pk_un h, pk_un h, pk_un h]; exact hg9 d (by omega))) _ _ _ hP hD hS (lv_sub hl [1, 2, 3, 0] rfl)
    exact lh (2 * 4 + 1) 0 ex ey ew (by omega) (by omega) (fun d h => absurd h (by omega)) _ _ _ hP hD hS (lv_sub hl [1, 2, 3, 0] rfl)
  · have hkz : ¬ nI k = 0 := nI_ne0 (by omega) (by omega)
    refine lv_iload_n hx hb dX12_begins_0 rfl (lv_at hl 1 rfl) ?_
    refine lv_if_ne (tgt := 12) hx hb dX12_begins_1 (by decide) (fun c_36 => ?_) (fun c_36 => absurd c_36 hkz)
    refine lv_iload_n hx hb dX12_begins_12 rfl (lv_at hl 1 rfl) ?_
    refine lv_iconst (v := nI 1) hx hb dX12_begins_13 (by decide) ?_
    refine lv_iconst (v := nI 3) hx hb dX12_begins_14 (by decide) ?_
    refine cI_go (wr := [(h0, ob 12 (mfs g)), ((r 38), aI E 64 mx), ((r 39), aI E 64 my), ((r 40), aI E 64 mw), ((r 41), aI E 64 mt), ((r 44), aI E 64 ex), ((r 45), aI E 64 ey), ((r 46), aI E 64 ew)]) (cM_runS (As := [.int (nI k), .int (nI 1), .int (nI 3)]) (rest := []) F (c_X12_in l E (nI k) (nI 1) (nI 3)) yy_X12_in wdT_X12_in wdM_RX12_227 hP hD hS hK hZ hA [] rfl rfl rfl hl.1 rfl (Nat.le_of_ble_eq_true rfl) dX12_begins_15 ⟨by decide, by decide⟩ ⟨by decide, by decide⟩) hP hD hS hA [] [0, 1, 2, 3, 4, 5, 6, 7] rfl rfl rfl (by decide) (fun r_39 u_38 H locs hw_37 hP hD hS => ?_)
    try dsimp only at hw_37
    have hP : va_P E.1 vwCl [(h0, ob 12 (mfs g)), ((r 38), aI E 64 mx), ((r 39), aI E 64 my), ((r 40), aI E 64 mw), ((r 41), aI E 64 mt), ((r 44), aI E 64 ex), ((r 45), aI E 64 ey), ((r 46), aI E 64 ew)] H := hP
    have hD : va_D A [(h0, ob 12 (mfs g)), ((r 38), aI E 64 mx), ((r 39), aI E 64 my), ((r 40), aI E 64 mw), ((r 41), aI E 64 mt), ((r 44), aI E 64 ex), ((r 45), aI E 64 ey), ((r 46), aI E 64 ew)] := hD
    rw [if_pos ⟨nI_le hk1 (by omega), nI_le hk3 (by decide)⟩] at hw_37
    subst hw_37
    refine lv_if_eq (tgt := 31) hx hb dX12_begins_18 (by decide) (fun c_40 => absurd c_40 (by decide)) (fun c_40 => ?_)
    refine lv_iload_n hx hb dX12_begins_21 rfl (lv_at hl 2 rfl) ?_
    refine lv_iconst (v := nI 1) hx hb dX12_begins_22 (by decide) ?_
    refine lv_bipush (v := nI 32) hx hb dX12_begins_23 (by decide) ?_
    refine cI_go (wr := [(h0, ob 12 (mfs g)), ((r 38), aI E 64 mx), ((r 39), aI E 64 my), ((r 40), aI E 64 mw), ((r 41), aI E 64 mt), ((r 44), aI E 64 ex), ((r 45), aI E 64 ey), ((r 46), aI E 64 ew)]) (cM_runS (As := [.int (nI n), .int (nI 1), .int (nI 32)]) (rest := []) F (c_X12_in l E (nI n) (nI 1) (nI 32)) yy_X12_in wdT_X12_in wdM_RX12_227 hP hD hS hK hZ hA [] rfl rfl rfl hl.1 rfl (Nat.le_of_ble_eq_true rfl) dX12_begins_25 ⟨by decide, by decide⟩ ⟨by decide, by decide⟩) hP hD hS hA [] [0, 1, 2, 3, 4, 5, 6, 7] rfl rfl rfl (by decide) (fun r_43 u_42 H locs hw_41 hP hD hS => ?_)
    try dsimp only at hw_41
    have hP : va_P E.1 vwCl [(h0, ob 12 (mfs g)), ((r 38), aI E 64 mx), ((r 39), aI E 64 my), ((r 40), aI E 64 mw), ((r 41), aI E 64 mt), ((r 44), aI E 64 ex), ((r 45), aI E 64 ey), ((r 46), aI E 64 ew)] H := hP
    have hD : va_D A [(h0, ob 12 (mfs g)), ((r 38), aI E 64 mx), ((r 39), aI E 64 my), ((r 40), aI E 64 mw), ((r 41), aI E 64 mt), ((r 44), aI E 64 ex), ((r 45), aI E 64 ey), ((r 46), aI E 64 ew)] := hD
    rw [if_pos ⟨nI_le hn1 (by omega), nI_le hn32 (by decide)⟩] at hw_41
    subst hw_41
    refine lv_if_ne (tgt := 33) hx hb dX12_begins_28 (by decide) (fun c_44 => ?_) (fun c_44 => absurd c_44 (by decide))
    refine lv_aload_n hx hb dX12_begins_33 rfl (lv_at hl 0 rfl) ?_
    refine lv_iconst (v := nI 2) hx hb dX12_begins_34 (by decide) ?_
    refine lv_iload_n hx hb dX12_begins_35 rfl (lv_at hl 2 rfl) ?_
    refine lv_imul hx hb dX12_begins_36 ?_
    rw [pk_mul 2 n]
    refine va_put (D := E.1) (ci := 12) (v := .int (nI (2 * n))) (ty := .int) (C := RX12) (T := TX12) (N := 116) hx hb hts iX12 tyX12 tyX12_ok nmX12 hown hK hP hD hS 0 rfl rfl 37 (by decide) (hts _ wdF_RX12_231) (fun _ h9 => h9) rfl (by decide +kernel) rfl rfl (by rw [mfs_len]; decide) dX12_begins_37 (fun H locs hP hD hS => ?_)
    have hP : va_P E.1 vwCl [(h0, ob 12 ((mfs g).set 37 (.int (nI (2 * n))))), ((r 38), aI E 64 mx), ((r 39), aI E 64 my), ((r 40), aI E 64 mw), ((r 41), aI E 64 mt), ((r 44), aI E 64 ex), ((r 45), aI E 64 ey), ((r 46), aI E 64 ew)] H := hP
    have hD : va_D A [(h0, ob 12 ((mfs g).set 37 (.int (nI (2 * n))))), ((r 38), aI E 64 mx), ((r 39), aI E 64 my), ((r 40), aI E 64 mw), ((r 41), aI E 64 mt), ((r 44), aI E 64 ex), ((r 45), aI E 64 ey), ((r 46), aI E 64 ew)] := hD
    rw [mfs_set _ 37 _ (by decide)] at hP hD
    refine lv_iload_n hx hb dX12_begins_40 rfl (lv_at hl 1 rfl) ?_
    refine lv_if_ne (tgt := 118) hx hb dX12_begins_41 (by decide) (fun c_45 => ?_) (fun c_45 => absurd c_45 hkz)
    refine lv_iconst (v := nI 0) hx hb dX12_begins_118 (by decide) ?_
    refine lv_istore_n (lv' := [(3, .int (nI 0)), (0, .ref h0), (1, .int (nI k)), (2, .int (nI n))]) hx hb dX12_begins_119 rfl hl (by decide) rfl (fun ls hl => ?_)
    have lc : ∀ (n_lc : Nat) (c9 : Nat) (gx : Nat → Int32) (gy : Nat → Int32) (gw : Nat → Int32) (gt : Nat → Int32) (hn8 : n + 1 ≤ c9 + n_lc) (hc9 : c9 ≤ n) (hF : flo (stC k) (2 * c9) gx gy gw) (hT : ∀ d, d < 2 * c9 → gt d = 0) (H : Heap) (locs : List Loc) (ls : Array Slot), va_P E.1 vwCl [(h0, ob 12 (mfs (updG g 37 (.int (nI (2 * n)))))), ((r 38), aI E 64 gx), ((r 39), aI E 64 gy), ((r 40), aI E 64 gw), ((r 41), aI E 64 gt), ((r 44), aI E 64 ex), ((r 45), aI E 64 ey), ((r 46), aI E 64 ew)] H → va_D A [(h0, ob 12 (mfs (updG g 37 (.int (nI (2 * n)))))), ((r 38), aI E 64 gx), ((r 39), aI E 64 gy), ((r 40), aI E 64 gw), ((r 41), aI E 64 gt), ((r 44), aI E 64 ex), ((r 45), aI E 64 ey), ((r 46), aI E 64 ew)] → va_S A s.heap H locs → lv_has ls 7 [(0, .ref h0), (1, .int (nI k)), (2, .int (nI n)), (3, .int (nI c9))] → W p l e rm_c_X12_begins s m ([.ref h0, .int (nI k), .int (nI n)] : List Value).toArray below meth c H locs 0 0 (MQ below ((qI E (fun (r : Int32) (u : (Nat → Int32) × (Nat → Int32) × (Nat → Int32) × (Nat → Int32) × (Nat → Int32) × (Nat → Int32) × (Nat → Int32)) => match u with | (gx, gy, gw, gt, fx, fy, fw) => r = 1 ∧ flo (stC k) (2 * n) gx gy gw ∧ (∀ d, d < 2 * n → gt d = 0) ∧ (∀ d, d < 2 * n → fx d = gx d ∧ fy d = gy d ∧ fw d = gw d)) (fun (u : (Nat → Int32) × (Nat → Int32) × (Nat → Int32) × (Nat → Int32) × (Nat → Int32) × (Nat → Int32) × (Nat → Int32)) => match u with | (gx, gy, gw, gt, fx, fy, fw) => [(h0, ob 12 (mfs (updG g 37 (.int (nI (2 * n)))))), ((r 38), aI E 64 gx), ((r 39), aI E 64 gy), ((r 40), aI E 64 gw), ((r 41), aI E 64 gt), ((r 44), aI E 64 fx), ((r 45), aI E 64 fy), ((r 46), aI E 64 fw)])) A) ([.ref h0, .int (nI k), .int (nI n)] : List Value).toArray s (rm_c_X12_begins).cells (rm_c_X12_begins).slots A) (F0 m 120 ls []) := by
      intro n_lc
      induction n_lc with
      | zero =>
        intro c9 gx gy gw gt hn8 hc9 hF hT
        exfalso; omega
      | succ n_lc ih_lc =>
        intro c9 gx gy gw gt hn8 hc9 hF hT H locs ls hP hD hS hl
        refine lv_iload_n hx hb dX12_begins_120 rfl (lv_at hl 3 rfl) ?_
        refine lv_iload_n hx hb dX12_begins_121 rfl (lv_at hl 2 rfl) ?_
        refine lv_icmp_ge (tgt := 343) hx hb dX12_begins_122 (by decide) (fun c1 => ?_) (fun c1 => ?_)
        · have c2 : n ≤ c9 := (nI_leI (by omega) (by omega)).mp c1
          obtain rfl : c9 = n := by omega
          refine lv_iconst (v := nI 0) hx hb dX12_begins_343 (by decide) ?_
          refine lv_istore_n (lv' := [(3, .int (nI 0)), (0, .ref h0), (1, .int (nI k)), (2, .int (nI c9))]) hx hb dX12_begins_344 rfl hl (by decide) rfl (fun ls hl => ?_)
          obtain ⟨gx, hgx⟩ : ∃ z : Nat → Int32, z = gx := ⟨_, rfl⟩
          obtain ⟨gy, hgy⟩ : ∃ z : Nat → Int32, z = gy := ⟨_, rfl⟩
          obtain ⟨gw, hgw⟩ : ∃ z : Nat → Int32, z = gw := ⟨_, rfl⟩
          obtain ⟨gt, hgt⟩ : ∃ z : Nat → Int32, z = gt := ⟨_, rfl⟩
          rw [← hgx, ← hgy, ← hgw, ← hgt] at hP hD
          have hfl : flo (stC k) (2 * c9) gx gy gw := by rw [hgx, hgy, hgw]; exact hF
          have hft : ∀ d, d < 2 * c9 → gt d = 0 := by rw [hgt]; exact hT
          have hP : va_P E.1 vwCl [(h0, ob 12 (mfs (updG g 37 (.int (nI (2 * c9)))))), ((r 38), aI E 64 gx), ((r 39), aI E 64 gy), ((r 40), aI E 64 gw), ((r 41), aI E 64 gt), ((r 44), aI E 64 ex), ((r 45), aI E 64 ey), ((r 46), aI E 64 ew)] H := hP
          have hD : va_D A [(h0, ob 12 (mfs (updG g 37 (.int (nI (2 * c9)))))), ((r 38), aI E 64 gx), ((r 39), aI E 64 gy), ((r 40), aI E 64 gw), ((r 41), aI E 64 gt), ((r 44), aI E 64 ex), ((r 45), aI E 64 ey), ((r 46), aI E 64 ew)] := hD
          have lh : ∀ (n_lh : Nat) (i : Nat) (fx : Nat → Int32) (fy : Nat → Int32) (fw : Nat → Int32) (hn9 : 2 * c9 + 1 ≤ i + n_lh) (hi : i ≤ 2 * c9) (hg9 : ∀ d, d < i → fx d = gx d ∧ fy d = gy d ∧ fw d = gw d) (H : Heap) (locs : List Loc) (ls : Array Slot), va_P E.1 vwCl [(h0, ob 12 (mfs (updG g 37 (.int (nI (2 * c9)))))), ((r 38), aI E 64 gx), ((r 39), aI E 64 gy), ((r 40), aI E 64 gw), ((r 41), aI E 64 gt), ((r 44), aI E 64 fx), ((r 45), aI E 64 fy), ((r 46), aI E 64 fw)] H → va_D A [(h0, ob 12 (mfs (updG g 37 (.int (nI (2 * c9)))))), ((r 38), aI E 64 gx), ((r 39), aI E 64 gy), ((r 40), aI E 64 gw), ((r 41), aI E 64 gt), ((r 44), aI E 64 fx), ((r 45), aI E 64 fy), ((r 46), aI E 64 fw)] → va_S A s.heap H locs → lv_has ls 7 [(0, .ref h0), (1, .int (nI k)), (2, .int (nI c9)), (3, .int (nI i))] → W p l e rm_c_X12_begins s m ([.ref h0, .int (nI k), .int (nI c9)] : List Value).toArray below meth c H locs 0 0 (MQ below ((qI E (fun (r : Int32) (u : (Nat → Int32) × (Nat → Int32) × (Nat → Int32) × (Nat → Int32) × (Nat → Int32) × (Nat → Int32) × (Nat → Int32)) => match u with | (gx, gy, gw, gt, fx, fy, fw) => r = 1 ∧ flo (stC k) (2 * c9) gx gy gw ∧ (∀ d, d < 2 * c9 → gt d = 0) ∧ (∀ d, d < 2 * c9 → fx d = gx d ∧ fy d = gy d ∧ fw d = gw d)) (fun (u : (Nat → Int32) × (Nat → Int32) × (Nat → Int32) × (Nat → Int32) × (Nat → Int32) × (Nat → Int32) × (Nat → Int32)) => match u with | (gx, gy, gw, gt, fx, fy, fw) => [(h0, ob 12 (mfs (updG g 37 (.int (nI (2 * c9)))))), ((r 38), aI E 64 gx), ((r 39), aI E 64 gy), ((r 40), aI E 64 gw), ((r 41), aI E 64 gt), ((r 44), aI E 64 fx), ((r 45), aI E 64 fy), ((r 46), aI E 64 fw)])) A) ([.ref h0, .int (nI k), .int (nI c9)] : List Value).toArray s (rm_c_X12_begins).cells (rm_c_X12_begins).slots A) (F0 m 345 ls []) := by
            intro n_lh
            induction n_lh with
            | zero =>
              intro i fx fy fw hn9 hi hg9
              exfalso; omega
            | succ n_lh ih_lh =>
              intro i fx fy fw hn9 hi hg9 H locs ls hP hD hS hl
              refine lv_iload_n hx hb dX12_begins_345 rfl (lv_at hl 3 rfl) ?_
              refine lv_aload_n hx hb dX12_begins_346 rfl (lv_at hl 0 rfl) ?_
              refine va_get (D := E.1) (ci := 12) (v := .int (nI (2 * c9))) (C := RX12) (T := TX12) (N := 116) hx hb hts iX12 hown hK hP 0 rfl rfl 37 (by decide) (hts _ wdF_RX12_231) (fun _ h9 => h9) ((mfs_get _ 37 (by decide)).trans (congrArg some (show (updG g 37 (.int (nI (2 * c9)))) 37 = .int (nI (2 * c9)) from rfl))) dX12_begins_347 ?_
              refine lv_icmp_ge (tgt := 395) hx hb dX12_begins_350 (by decide) (fun d1 => ?_) (fun d1 => ?_)
              · have d2 : 2 * c9 ≤ i := (nI_leI (by omega) (by omega)).mp d1
                refine lv_iconst (v := nI 1) hx hb dX12_begins_395 (by decide) ?_
                exact cB_ret F hP hD hS hK (by decide) (gx, gy, gw, gt, fx, fy, fw) ⟨rfl, hfl, hft, fun d hd => hg9 d (by omega)⟩ [0, 1, 2, 3, 4, 5, 6, 7] rfl rfl dX12_begins_396 (by decide) (by decide)
              · have d2 : i < 2 * c9 := Nat.lt_of_not_le (fun h => d1 (nI_le h (by omega)))
                refine lv_aload_n hx hb dX12_begins_353 rfl (lv_at hl 0 rfl) ?_
                refine va_get (D := E.1) (ci := 12) (v := .ref (r 44)) (C := RX12) (T := TX12) (N := 116) hx hb hts iX12 hown hK hP 0 rfl rfl 44 (by decide) (hts _ wdF_RX12_83) (fun _ h9 => h9) ((mfs_get _ 44 (by decide)).trans (congrArg some (show (updG g 37 (.int (nI (2 * c9)))) 44 = .ref (r 44) from (hR 44 rfl)))) dX12_begins_354 ?_
                refine lv_iload_n hx hb dX12_begins_357 rfl (lv_at hl 3 rfl) ?_
                refine lv_aload_n hx hb dX12_begins_358 rfl (lv_at hl 0 rfl) ?_
                refine va_get (D := E.1) (ci := 12) (v := .ref (r 38)) (C := RX12) (T := TX12) (N := 116) hx hb hts iX12 hown hK hP 0 rfl rfl 38 (by decide) (hts _ wdF_RX12_71) (fun _ h9 => h9) ((mfs_get _ 38 (by decide)).trans (congrArg some (show (updG g 37 (.int (nI (2 * c9)))) 38 = .ref (r 38) from (hR 38 rfl)))) dX12_begins_359 ?_
                refine lv_iload_n hx hb dX12_begins_362 rfl (lv_at hl 3 rfl) ?_
                refine va_iald hx hb hK hP 1 1 rfl rfl (vp_in_nI (by omega) (by decide)) dX12_begins_363 ?_
                rw [nI_clamp (n := i) (by omega)]
                refine va_iast hx hb hK hP hD hS 5 1 rfl rfl (vp_in_nI (by omega) (by decide)) dX12_begins_364 (fun H locs hP hD hS => ?_)
                have hP : va_P E.1 vwCl [(h0, ob 12 (mfs (updG g 37 (.int (nI (2 * c9)))))), ((r 38), aI E 64 gx), ((r 39), aI E 64 gy), ((r 40), aI E 64 gw), ((r 41), aI E 64 gt), ((r 44), aI E 64 (upd fx (nI i).toNatClampNeg (gx i))), ((r 45), aI E 64 fy), ((r 46), aI E 64 fw)] H := hP
                have hD : va_D A [(h0, ob 12 (mfs (updG g 37 (.int (nI (2 * c9)))))), ((r 38), aI E 64 gx), ((r 39), aI E 64 gy), ((r 40), aI E 64 gw), ((r 41), aI E 64 gt), ((r 44), aI E 64 (upd fx (nI i).toNatClampNeg (gx i))), ((r 45), aI E 64 fy), ((r 46), aI E 64 fw)] := hD
                rw [nI_clamp (n := i) (by omega)] at hP hD
                refine lv_aload_n hx hb dX12_begins_365 rfl (lv_at hl 0 rfl) ?_
                refine va_get (D := E.1) (ci := 12) (v := .ref (r 45)) (C := RX12) (T := TX12) (N := 116) hx hb hts iX12 hown hK hP 0 rfl rfl 45 (by decide) (hts _ wdF_RX12_86) (fun _ h9 => h9) ((mfs_get _ 45 (by decide)).trans (congrArg some (show (updG g 37 (.int (nI (2 * c9)))) 45 = .ref (r 45) from (hR 45 rfl)))) dX12_begins_366 ?_
                refine lv_iload_n hx hb dX12_begins_369 rfl (lv_at hl 3 rfl) ?_
                refine lv_aload_n hx hb dX12_begins_370 rfl (lv_at hl 0 rfl) ?_
                refine va_get (D := E.1) (ci := 12) (v := .ref (r 39)) (C := RX12) (T := TX12) (N := 116) hx hb hts iX12 hown hK hP 0 rfl rfl 39 (by decide) (hts _ wdF_RX12_74) (fun _ h9 => h9) ((mfs_get _ 39 (by decide)).trans (congrArg some (show (updG g 37 (.int (nI (2 * c9)))) 39 = .ref (r 39) from (hR 39 rfl)))) dX12_begins_371 ?_
                refine lv_iload_n hx hb dX12_begins_374 rfl (lv_at hl 3 rfl) ?_
                refine va_iald hx hb hK hP 2 1 rfl rfl (vp_in_nI (by omega) (by decide)) dX12_begins_375 ?_
                rw [nI_clamp (n := i) (by omega)]
                refine va_iast hx hb hK hP hD hS 6 1 rfl rfl (vp_in_nI (by omega) (by decide)) dX12_begins_376 (fun H locs hP hD hS => ?_)
                have hP : va_P E.1 vwCl [(h0, ob 12 (mfs (updG g 37 (.int (nI (2 * c9)))))), ((r 38), aI E 64 gx), ((r 39), aI E 64 gy), ((r 40), aI E 64 gw), ((r 41), aI E 64 gt), ((r 44), aI E 64 (upd fx i (gx i))), ((r 45), aI E 64 (upd fy (nI i).toNatClampNeg (gy i))), ((r 46), aI E 64 fw)] H := hP
                have hD : va_D A [(h0, ob 12 (mfs (updG g 37 (.int (nI (2 * c9)))))), ((r 38), aI E 64 gx), ((r 39), aI E 64 gy), ((r 40), aI E 64 gw), ((r 41), aI E 64 gt), ((r 44), aI E 64 (upd fx i (gx i))), ((r 45), aI E 64 (upd fy (nI i).toNatClampNeg (gy i))), ((r 46), aI E 64 fw)] := hD
                rw [nI_clamp (n := i) (by omega)] at hP hD
                refine lv_aload_n hx hb dX12_begins_377 rfl (lv_at hl 0 rfl) ?_
                refine va_get (D := E.1) (ci := 12) (v := .ref (r 46)) (C := RX12) (T := TX12) (N := 116) hx hb hts iX12 hown hK hP 0 rfl rfl 46 (by decide) (hts _ wdF_RX12_89) (fun _ h9 => h9) ((mfs_get _ 46 (by decide)).trans (congrArg some (show (updG g 37 (.int (nI (2 * c9)))) 46 = .ref (r 46) from (hR 46 rfl)))) dX12_begins_378 ?_
                refine lv_iload_n hx hb dX12_begins_381 rfl (lv_at hl 3 rfl) ?_
                refine lv_aload_n hx hb dX12_begins_382 rfl (lv_at hl 0 rfl) ?_
                refine va_get (D := E.1) (ci := 12) (v := .ref (r 40)) (C := RX12) (T := TX12) (N := 116) hx hb hts iX12 hown hK hP 0 rfl rfl 40 (by decide) (hts _ wdF_RX12_77) (fun _ h9 => h9) ((mfs_get _ 40 (by decide)).trans (congrArg some (show (updG g 37 (.int (nI (2 * c9)))) 40 = .ref (r 40) from (hR 40 rfl)))) dX12_begins_383 ?_
                refine lv_iload_n hx hb dX12_begins_386 rfl (lv_at hl 3 rfl) ?_
                refine va_iald hx hb hK hP 3 1 rfl rfl (vp_in_nI (by omega) (by decide)) dX12_begins_387 ?_
                rw [nI_clamp (n := i) (by omega)]
                refine va_iast hx hb hK hP hD hS 7 1 rfl rfl (vp_in_nI (by omega) (by decide)) dX12_begins_388 (fun H locs hP hD hS => ?_)
                have hP : va_P E.1 vwCl [(h0, ob 12 (mfs (updG g 37 (.int (nI (2 * c9)))))), ((r 38), aI E 64 gx), ((r 39), aI E 64 gy), ((r 40), aI E 64 gw), ((r 41), aI E 64 gt), ((r 44), aI E 64 (upd fx i (gx i))), ((r 45), aI E 64 (upd fy i (gy i))), ((r 46), aI E 64 (upd fw (nI i).toNatClampNeg (gw i)))] H := hP
                have hD : va_D A [(h0, ob 12 (mfs (updG g 37 (.int (nI (2 * c9)))))), ((r 38), aI E 64 gx), ((r 39), aI E 64 gy), ((r 40), aI E 64 gw), ((r 41), aI E 64 gt), ((r 44), aI E 64 (upd fx i (gx i))), ((r 45), aI E 64 (upd fy i (gy i))), ((r 46), aI E 64 (upd fw (nI i).toNatClampNeg (gw i)))] := hD
                rw [nI_clamp (n := i) (by omega)] at hP hD
                refine lv_iinc (v := nI (i + 1)) (lv' := [(3, .int (nI (i + 1))), (0, .ref h0), (1, .int (nI k)), (2, .int (nI c9))]) hx hb dX12_begins_389 hl (k := 3) rfl (nI_1 i) (by decide) rfl (fun ls hl => ?_)
                refine lv_goto (tgt := 345) hx hb dX12_begins_392 (by decide) ?_
                exact ih_lh (i + 1) (upd fx i (gx i)) (upd fy i (gy i)) (upd fw i (gw i)) (by omega) (by omega) (fun d hd => (Decidable.em (d = i)).elim (fun h => by rw [h]; exact ⟨pk_us, pk_us, pk_us⟩) (fun h => by rw [pk_un h, pk_un h, pk_un h]; exact hg9 d (by omega))) _ _ _ hP hD hS (lv_sub hl [1, 2, 3, 0] rfl)
          exact lh (2 * c9 + 1) 0 ex ey ew (by omega) (by omega) (fun d h => absurd h (by omega)) _ _ _ hP hD hS (lv_sub hl [1, 2, 3, 0] rfl)
        · have c2 : c9 < n := Nat.lt_of_not_le (fun h => c1 (nI_le h (by omega)))
          refine lv_iload_n hx hb dX12_begins_125 rfl (lv_at hl 1 rfl) ?_
          refine lv_if_le (tgt := 343) hx hb dX12_begins_126 (by decide) (fun c_46 => absurd c_46 (nI_nle (by omega) (by omega))) (fun c_46 => ?_)
          refine lv_iload_n hx hb dX12_begins_129 rfl (lv_at hl 3 rfl) ?_
          refine lv_iconst (v := nI 2) hx hb dX12_begins_130 (by decide) ?_
          refine lv_irem hx hb dX12_begins_131 (by decide) ?_
          rw [show ((nI c9) - (nI c9) / (nI 2) * (nI 2) : Int32) = nI (c9 % 2) from pk_rem (by omega) (by decide) (by decide)]
          refine lv_if_ne (tgt := 139) hx hb dX12_begins_132 (by decide) (fun c3 => ?_) (fun c3 => ?_)
          · have c4 : c9 % 2 = 1 := by have := Nat.mod_lt c9 (show 0 < 2 by decide); rcases (show c9 % 2 = 0 ∨ c9 % 2 = 1 by omega) with h | h; exact absurd (by rw [h]; rfl) c3; exact h
            refine lv_iconst (v := nI 0) hx hb dX12_begins_139 (by decide) ?_
            refine lv_istore (lv' := [(4, .int (nI 0)), (0, .ref h0), (1, .int (nI k)), (2, .int (nI n)), (3, .int (nI c9))]) hx hb dX12_begins_140 hl (by decide) rfl (fun ls hl => ?_)
            refine lv_iconst (v := nI 2) hx hb dX12_begins_142 (by decide) ?_
            refine lv_iload_n hx hb dX12_begins_143 rfl (lv_at hl 4 rfl) ?_
            refine lv_imul hx hb dX12_begins_144 ?_
            rw [pk_mul 2 c9]
            refine lv_istore (lv' := [(5, .int (nI (2 * c9))), (4, .int (nI 0)), (0, .ref h0), (1, .int (nI k)), (2, .int (nI n)), (3, .int (nI c9))]) hx hb dX12_begins_145 hl (by decide) rfl (fun ls hl => ?_)
            refine lv_bipush (v := nI 8) hx hb dX12_begins_147 (by decide) ?_
            refine lv_iload_n hx hb dX12_begins_149 rfl (lv_at hl 5 rfl) ?_
            refine lv_iconst (v := nI 2) hx hb dX12_begins_150 (by decide) ?_
            refine lv_idiv hx hb dX12_begins_151 (by decide) ?_
            rw [show ((nI c9) / (nI 2) : Int32) = nI (c9 / 2) from pk_div (by omega) (by decide) (by decide)]
            refine lv_imul hx hb dX12_begins_152 ?_
            rw [pk_mul 8 (c9 / 2)]
            refine lv_istore (lv' := [(6, .int (nI (8 * (c9 / 2)))), (5, .int (nI (2 * c9))), (4, .int (nI 0)), (0, .ref h0), (1, .int (nI k)), (2, .int (nI n)), (3, .int (nI c9))]) hx hb dX12_begins_153 hl (by decide) rfl (fun ls hl => ?_)
            rcases (show k = 1 ∨ k = 2 ∨ k = 3 by omega) with rfl | rfl | rfl
            · refine lv_iload_n hx hb dX12_begins_155 rfl (lv_at hl 4 rfl) ?_
              refine lv_iconst (v := nI 1) hx hb dX12_begins_156 (by decide) ?_
              refine lv_icmp_ne (tgt := 187) hx hb dX12_begins_157 (by decide) (fun c_47 => absurd (by decide) c_47) (fun c_47 => ?_)
              refine lv_aload_n hx hb dX12_begins_160 rfl (lv_at hl 3 rfl) ?_
              refine lv_iload hx hb dX12_begins_161 (lv_at hl 1 rfl) ?_
              refine lv_iconst (v := nI 0) hx hb dX12_begins_163 (by decide) ?_
              refine lv_iconst (v := nI 4) hx hb dX12_begins_164 (by decide) ?_
              refine lv_iload_n hx hb dX12_begins_165 rfl (lv_at hl 6 rfl) ?_
              refine lv_imul hx hb dX12_begins_166 ?_
              rw [pk_mul 4 c9]
              refine lv_iconst (v := nI 1) hx hb dX12_begins_167 (by decide) ?_
              refine cV_go (wr := [((r 44), aI E 64 ex), ((r 45), aI E 64 ey), ((r 46), aI E 64 ew)]) (cM_runV (As := [.int (nI (2 * c9)), .int (nI 0), .int (nI (4 * c9)), .int (nI 1)]) (rest := []) F (c_X12_stands l E h0 r (updG g 37 (.int (nI (2 * n)))) gx gy gw gt (2 * c9) (nI 0) (nI (4 * c9)) (nI 1) (mOK_u hR rfl) (by omega)) yy_X12_stands yi_X12_stands wdM_RX12_234 hP hD hS hK hZ hA [0, 1, 2, 3, 4] rfl rfl 0 12 rfl rfl rfl hl.1 rfl (Nat.le_of_ble_eq_true rfl) dX12_begins_168 ⟨by decide, by decide⟩ ⟨by decide, by decide⟩) hP hD hS hA [0, 1, 2, 3, 4] [5, 6, 7] rfl rfl rfl (by decide) (fun u_49 H locs hw_48 hP hD hS => ?_)
              try dsimp only at hw_48
              have hP : va_P E.1 vwCl [((r 44), aI E 64 ex), ((r 45), aI E 64 ey), ((r 46), aI E 64 ew), (h0, ob 12 (mfs (updG g 37 (.int (nI (2 * n)))))), ((r 38), aI E 64 (upd gx (2 * c9) (nI 0))), ((r 39), aI E 64 (upd gy (2 * c9) (nI (4 * c9)))), ((r 40), aI E 64 (upd gw (2 * c9) (nI 1))), ((r 41), aI E 64 (upd gt (2 * c9) (nI 0)))] H := hP
              have hD : va_D A [((r 44), aI E 64 ex), ((r 45), aI E 64 ey), ((r 46), aI E 64 ew), (h0, ob 12 (mfs (updG g 37 (.int (nI (2 * n)))))), ((r 38), aI E 64 (upd gx (2 * c9) (nI 0))), ((r 39), aI E 64 (upd gy (2 * c9) (nI (4 * c9)))), ((r 40), aI E 64 (upd gw (2 * c9) (nI 1))), ((r 41), aI E 64 (upd gt (2 * c9) (nI 0)))] := hD
              refine lv_aload_n hx hb dX12_begins_171 rfl (lv_at hl 3 rfl) ?_
              refine lv_iload hx hb dX12_begins_172 (lv_at hl 1 rfl) ?_
              refine lv_iconst (v := nI 1) hx hb dX12_begins_174 (by decide) ?_
              refine lv_iadd hx hb dX12_begins_175 ?_
              rw [nI_add (2 * c9) 1]
              refine lv_iconst (v := nI 4) hx hb dX12_begins_176 (by decide) ?_
              refine lv_iconst (v := nI 4) hx hb dX12_begins_177 (by decide) ?_
              refine lv_iload_n hx hb dX12_begins_178 rfl (lv_at hl 6 rfl) ?_
              refine lv_imul hx hb dX12_begins_179 ?_
              rw [pk_mul 4 c9]
              refine lv_iconst (v := nI 3) hx hb dX12_begins_180 (by decide) ?_
              refine cV_go (wr := [((r 44), aI E 64 ex), ((r 45), aI E 64 ey), ((r 46), aI E 64 ew)]) (cM_runV (As := [.int (nI (2 * c9 + 1)), .int (nI 4), .int (nI (4 * c9)), .int (nI 3)]) (rest := []) F (c_X12_stands l E h0 r (updG g 37 (.int (nI (2 * n)))) (upd gx (2 * c9) (nI 0)) (upd gy (2 * c9) (nI (4 * c9))) (upd gw (2 * c9) (nI 1)) (upd gt (2 * c9) (nI 0)) (2 * c9 + 1) (nI 4) (nI (4 * c9)) (nI 3) (mOK_u hR rfl) (by omega)) yy_X12_stands yi_X12_stands wdM_RX12_234 hP hD hS hK hZ hA [3, 4, 5, 6, 7] rfl rfl 3 12 rfl rfl rfl hl.1 rfl (Nat.le_of_ble_eq_true rfl) dX12_begins_181 ⟨by decide, by decide⟩ ⟨by decide, by decide⟩) hP hD hS hA [3, 4, 5, 6, 7] [0, 1, 2] rfl rfl rfl (by decide) (fun u_52 H locs hw_51 hP hD hS => ?_)
              try dsimp only at hw_51
              have hP : va_P E.1 vwCl [((r 44), aI E 64 ex), ((r 45), aI E 64 ey), ((r 46), aI E 64 ew), (h0, ob 12 (mfs (updG g 37 (.int (nI (2 * n)))))), ((r 38), aI E 64 (upd (upd gx (2 * c9) (nI 0)) (2 * c9 + 1) (nI 4))), ((r 39), aI E 64 (upd (upd gy (2 * c9) (nI (4 * c9))) (2 * c9 + 1) (nI (4 * c9)))), ((r 40), aI E 64 (upd (upd gw (2 * c9) (nI 1)) (2 * c9 + 1) (nI 3))), ((r 41), aI E 64 (upd (upd gt (2 * c9) (nI 0)) (2 * c9 + 1) (nI 0)))] H := hP
              have hD : va_D A [((r 44), aI E 64 ex), ((r 45), aI E 64 ey), ((r 46), aI E 64 ew), (h0, ob 12 (mfs (updG g 37 (.int (nI (2 * n)))))), ((r 38), aI E 64 (upd (upd gx (2 * c9) (nI 0)) (2 * c9 + 1) (nI 4))), ((r 39), aI E 64 (upd (upd gy (2 * c9) (nI (4 * c9))) (2 * c9 + 1) (nI (4 * c9)))), ((r 40), aI E 64 (upd (upd gw (2 * c9) (nI 1)) (2 * c9 + 1) (nI 3))), ((r 41), aI E 64 (upd (upd gt (2 * c9) (nI 0)) (2 * c9 + 1) (nI 0)))] := hD
              refine lv_goto (tgt := 337) hx hb dX12_begins_184 (by decide) ?_
              refine lv_iinc (v := nI (c9 + 1)) (lv' := [(3, .int (nI (c9 + 1))), (6, .int (nI (8 * (c9 / 2)))), (5, .int (nI (2 * c9))), (4, .int (nI 0)), (0, .ref h0), (1, .int (nI 1)), (2, .int (nI n))]) hx hb dX12_begins_337 hl (k := 6) rfl (nI_1 c9) (by decide) rfl (fun ls hl => ?_)
              refine lv_goto (tgt := 120) hx hb dX12_begins_340 (by decide) ?_
              obtain ⟨hs1, hs2⟩ := bg_1_1 c9 (by omega) c4
              exact ih_lc (c9 + 1) (upd (upd gx (2 * c9) (nI 0)) (2 * c9 + 1) (nI 4)) (upd (upd gy (2 * c9) (nI (4 * c9))) (2 * c9 + 1) (nI (4 * c9))) (upd (upd gw (2 * c9) (nI 1)) (2 * c9 + 1) (nI 3)) (upd (upd gt (2 * c9) (nI 0)) (2 * c9 + 1) (nI 0)) (by omega) (by omega) (flo_2 hF hs1 hs2) (trn_2 hT) _ _ _ (hP.sub [3, 4, 5, 6, 7, 0, 1, 2] rfl) (hD.sub [3, 4, 5, 6, 7, 0, 1, 2] rfl rfl) hS (lv_sub hl [4, 5, 6, 0] rfl)
            · refine lv_iload_n hx hb dX12_begins_155 rfl (lv_at hl 4 rfl) ?_
              refine lv_iconst (v := nI 1) hx hb dX12_begins_156 (by decide) ?_
              refine lv_icmp_ne (tgt := 187) hx hb dX12_begins_157 (by decide) (fun c_54 => ?_) (fun c_54 => absurd c_54 (by decide))
              refine lv_iload_n hx hb dX12_begins_187 rfl (lv_at hl 4 rfl) ?_
              refine lv_iconst (v := nI 2) hx hb dX12_begins_188 (by decide) ?_
              refine lv_icmp_ne (tgt := 255) hx hb dX12_begins_189 (by decide) (fun c_55 => absurd (by decide) c_55) (fun c_55 => ?_)
              refine lv_aload_n hx hb dX12_begins_192 rfl (lv_at hl 3 rfl) ?_
              refine lv_iload hx hb dX12_begins_193 (lv_at hl 1 rfl) ?_
              refine lv_iload hx hb dX12_begins_195 (lv_at hl 2 rfl) ?_
              refine lv_if_eq (tgt := 204) hx hb dX12_begins_197 (by decide) (fun c_56 => ?_) (fun c_56 => absurd (by decide) c_56)
              refine lv_iconst (v := nI 4) hx hb dX12_begins_204 (by decide) ?_
              refine lv_iconst (v := nI 4) hx hb dX12_begins_205 (by decide) ?_
              refine lv_iload_n hx hb dX12_begins_206 rfl (lv_at hl 6 rfl) ?_
              refine lv_imul hx hb dX12_begins_207 ?_
              rw [pk_mul 4 c9]
              refine lv_iload hx hb dX12_begins_208 (lv_at hl 2 rfl) ?_
              refine lv_if_eq (tgt := 217) hx hb dX12_begins_210 (by decide) (fun c_57 => ?_) (fun c_57 => absurd (by decide) c_57)
              refine lv_iconst (v := nI 2) hx hb dX12_begins_217 (by decide) ?_
              refine cV_go (wr := [((r 44), aI E 64 ex), ((r 45), aI E 64 ey), ((r 46), aI E 64 ew)]) (cM_runV (As := [.int (nI (2 * c9)), .int (nI 4), .int (nI (4 * c9)), .int (nI 2)]) (rest := []) F (c_X12_stands l E h0 r (updG g 37 (.int (nI (2 * n)))) gx gy gw gt (2 * c9) (nI 4) (nI (4 * c9)) (nI 2) (mOK_u hR rfl) (by omega)) yy_X12_stands yi_X12_stands wdM_RX12_234 hP hD hS hK hZ hA [0, 1, 2, 3, 4] rfl rfl 0 12 rfl rfl rfl hl.1 rfl (Nat.le_of_ble_eq_true rfl) dX12_begins_218 ⟨by decide, by decide⟩ ⟨by decide, by decide⟩) hP hD hS hA [0, 1, 2, 3, 4] [5, 6, 7] rfl rfl rfl (by decide) (fun u_59 H locs hw_58 hP hD hS => ?_)
              try dsimp only at hw_58
              have hP : va_P E.1 vwCl [((r 44), aI E 64 ex), ((r 45), aI E 64 ey), ((r 46), aI E 64 ew), (h0, ob 12 (mfs (updG g 37 (.int (nI (2 * n)))))), ((r 38), aI E 64 (upd gx (2 * c9) (nI 4))), ((r 39), aI E 64 (upd gy (2 * c9) (nI (4 * c9)))), ((r 40), aI E 64 (upd gw (2 * c9) (nI 2))), ((r 41), aI E 64 (upd gt (2 * c9) (nI 0)))] H := hP
              have hD : va_D A [((r 44), aI E 64 ex), ((r 45), aI E 64 ey), ((r 46), aI E 64 ew), (h0, ob 12 (mfs (updG g 37 (.int (nI (2 * n)))))), ((r 38), aI E 64 (upd gx (2 * c9) (nI 4))), ((r 39), aI E 64 (upd gy (2 * c9) (nI (4 * c9)))), ((r 40), aI E 64 (upd gw (2 * c9) (nI 2))), ((r 41), aI E 64 (upd gt (2 * c9) (nI 0)))] := hD
              refine lv_aload_n hx hb dX12_begins_221 rfl (lv_at hl 3 rfl) ?_
              refine lv_iload hx hb dX12_begins_222 (lv_at hl 1 rfl) ?_
              refine lv_iconst (v := nI 1) hx hb dX12_begins_224 (by decide) ?_
              refine lv_iadd hx hb dX12_begins_225 ?_
              rw [nI_add (2 * c9) 1]
              refine lv_iload hx hb dX12_begins_226 (lv_at hl 2 rfl) ?_
              refine lv_if_eq (tgt := 235) hx hb dX12_begins_228 (by decide) (fun c_61 => ?_) (fun c_61 => absurd (by decide) c_61)
              refine lv_iconst (v := nI 0) hx hb dX12_begins_235 (by decide) ?_
              refine lv_iconst (v := nI 4) hx hb dX12_begins_236 (by decide) ?_
              refine lv_iload_n hx hb dX12_begins_237 rfl (lv_at hl 6 rfl) ?_
              refine lv_imul hx hb dX12_begins_238 ?_
              rw [pk_mul 4 c9]
              refine lv_iload hx hb dX12_begins_239 (lv_at hl 2 rfl) ?_
              refine lv_if_eq (tgt := 248) hx hb dX12_begins_241 (by decide) (fun c_62 => ?_) (fun c_62 => absurd (by decide) c_62)
              refine lv_iconst (v := nI 2) hx hb dX12_begins_248 (by decide) ?_
              refine cV_go (wr := [((r 44), aI E 64 ex), ((r 45), aI E 64 ey), ((r 46), aI E 64 ew)]) (cM_runV (As := [.int (nI (2 * c9 + 1)), .int (nI 0), .int (nI (4 * c9)), .int (nI 2)]) (rest := []) F (c_X12_stands l E h0 r (updG g 37 (.int (nI (2 * n)))) (upd gx (2 * c9) (nI 4)) (upd gy (2 * c9) (nI (4 * c9))) (upd gw (2 * c9) (nI 2)) (upd gt (2 * c9) (nI 0)) (2 * c9 + 1) (nI 0) (nI (4 * c9)) (nI 2) (mOK_u hR rfl) (by omega)) yy_X12_stands yi_X12_stands wdM_RX12_234 hP hD hS hK hZ hA [3, 4, 5, 6, 7] rfl rfl 3 12 rfl rfl rfl hl.1 rfl (Nat.le_of_ble_eq_true rfl) dX12_begins_249 ⟨by decide, by decide⟩ ⟨by decide, by decide⟩) hP hD hS hA [3, 4, 5, 6, 7] [0, 1, 2] rfl rfl rfl (by decide) (fun u_64 H locs hw_63 hP hD hS => ?_)
              try dsimp only at hw_63
              have hP : va_P E.1 vwCl [((r 44), aI E 64 ex), ((r 45), aI E 64 ey), ((r 46), aI E 64 ew), (h0, ob 12 (mfs (updG g 37 (.int (nI (2 * n)))))), ((r 38), aI E 64 (upd (upd gx (2 * c9) (nI 4)) (2 * c9 + 1) (nI 0))), ((r 39), aI E 64 (upd (upd gy (2 * c9) (nI (4 * c9))) (2 * c9 + 1) (nI (4 * c9)))), ((r 40), aI E 64 (upd (upd gw (2 * c9) (nI 2)) (2 * c9 + 1) (nI 2))), ((r 41), aI E 64 (upd (upd gt (2 * c9) (nI 0)) (2 * c9 + 1) (nI 0)))] H := hP
              have hD : va_D A [((r 44), aI E 64 ex), ((r 45), aI E 64 ey), ((r 46), aI E 64 ew), (h0, ob 12 (mfs (updG g 37 (.int (nI (2 * n)))))), ((r 38), aI E 64 (upd (upd gx (2 * c9) (nI 4)) (2 * c9 + 1) (nI 0))), ((r 39), aI E 64 (upd (upd gy (2 * c9) (nI (4 * c9))) (2 * c9 + 1) (nI (4 * c9)))), ((r 40), aI E 64 (upd (upd gw (2 * c9) (nI 2)) (2 * c9 + 1) (nI 2))), ((r 41), aI E 64 (upd (upd gt (2 * c9) (nI 0)) (2 * c9 + 1) (nI 0)))] := hD
              refine lv_goto (tgt := 337) hx hb dX12_begins_252 (by decide) ?_
              refine lv_iinc (v := nI (c9 + 1)) (lv' := [(3, .int (nI (c9 + 1))), (6, .int (nI (8 * (c9 / 2)))), (5, .int (nI (2 * c9))), (4, .int (nI 0)), (0, .ref h0), (1, .int (nI 2)), (2, .int (nI n))]) hx hb dX12_begins_337 hl (k := 6) rfl (nI_1 c9) (by decide) rfl (fun ls hl => ?_)
              refine lv_goto (tgt := 120) hx hb dX12_begins_340 (by decide) ?_
              obtain ⟨hs1, hs2⟩ := bg_2_1 c9 (by omega) c4
              exact ih_lc (c9 + 1) (upd (upd gx (2 * c9) (nI 4)) (2 * c9 + 1) (nI 0)) (upd (upd gy (2 * c9) (nI (4 * c9))) (2 * c9 + 1) (nI (4 * c9))) (upd (upd gw (2 * c9) (nI 2)) (2 * c9 + 1) (nI 2)) (upd (upd gt (2 * c9) (nI 0)) (2 * c9 + 1) (nI 0)) (by omega) (by omega) (flo_2 hF hs1 hs2) (trn_2 hT) _ _ _ (hP.sub [3, 4, 5, 6, 7, 0, 1, 2] rfl) (hD.sub [3, 4, 5, 6, 7, 0, 1, 2] rfl rfl) hS (lv_sub hl [4, 5, 6, 0] rfl)
            · refine lv_iload_n hx hb dX12_begins_155 rfl (lv_at hl 4 rfl) ?_
              refine lv_iconst (v := nI 1) hx hb dX12_begins_156 (by decide) ?_
              refine lv_icmp_ne (tgt := 187) hx hb dX12_begins_157 (by decide) (fun c_66 => ?_) (fun c_66 => absurd c_66 (by decide))
              refine lv_iload_n hx hb dX12_begins_187 rfl (lv_at hl 4 rfl) ?_
              refine lv_iconst (v := nI 2) hx hb dX12_begins_188 (by decide) ?_
              refine lv_icmp_ne (tgt := 255) hx hb dX12_begins_189 (by decide) (fun c_67 => ?_) (fun c_67 => absurd c_67 (by decide))
              refine lv_aload_n hx hb dX12_begins_255 rfl (lv_at hl 3 rfl) ?_
              refine lv_iload hx hb dX12_begins_256 (lv_at hl 1 rfl) ?_
              refine lv_iload hx hb dX12_begins_258 (lv_at hl 2 rfl) ?_
              refine lv_if_eq (tgt := 267) hx hb dX12_begins_260 (by decide) (fun c_68 => ?_) (fun c_68 => absurd (by decide) c_68)
              refine lv_iconst (v := nI 4) hx hb dX12_begins_267 (by decide) ?_
              refine lv_iload hx hb dX12_begins_268 (lv_at hl 2 rfl) ?_
              refine lv_if_eq (tgt := 280) hx hb dX12_begins_270 (by decide) (fun c_69 => ?_) (fun c_69 => absurd (by decide) c_69)
              refine lv_iload hx hb dX12_begins_280 (lv_at hl 0 rfl) ?_
              refine lv_iload hx hb dX12_begins_282 (lv_at hl 2 rfl) ?_
              refine lv_if_eq (tgt := 291) hx hb dX12_begins_284 (by decide) (fun c_70 => ?_) (fun c_70 => absurd (by decide) c_70)
              refine lv_iconst (v := nI 3) hx hb dX12_begins_291 (by decide) ?_
              refine cV_go (wr := [((r 44), aI E 64 ex), ((r 45), aI E 64 ey), ((r 46), aI E 64 ew)]) (cM_runV (As := [.int (nI (2 * c9)), .int (nI 4), .int (nI (8 * (c9 / 2))), .int (nI 3)]) (rest := []) F (c_X12_stands l E h0 r (updG g 37 (.int (nI (2 * n)))) gx gy gw gt (2 * c9) (nI 4) (nI (8 * (c9 / 2))) (nI 3) (mOK_u hR rfl) (by omega)) yy_X12_stands yi_X12_stands wdM_RX12_234 hP hD hS hK hZ hA [0, 1, 2, 3, 4] rfl rfl 0 12 rfl rfl rfl hl.1 rfl (Nat.le_of_ble_eq_true rfl) dX12_begins_292 ⟨by decide, by decide⟩ ⟨by decide, by decide⟩) hP hD hS hA [0, 1, 2, 3, 4] [5, 6, 7] rfl rfl rfl (by decide) (fun u_72 H locs hw_71 hP hD hS => ?_)
              try dsimp only at hw_71
              have hP : va_P E.1 vwCl [((r 44), aI E 64 ex), ((r 45), aI E 64 ey), ((r 46), aI E 64 ew), (h0, ob 12 (mfs (updG g 37 (.int (nI (2 * n)))))), ((r 38), aI E 64 (upd gx (2 * c9) (nI 4))), ((r 39), aI E 64 (upd gy (2 * c9) (nI (8 * (c9 / 2))))), ((r 40), aI E 64 (upd gw (2 * c9) (nI 3))), ((r 41), aI E 64 (upd gt (2 * c9) (nI 0)))] H := hP
              have hD : va_D A [((r 44), aI E 64 ex), ((r 45), aI E 64 ey), ((r 46), aI E 64 ew), (h0, ob 12 (mfs (updG g 37 (.int (nI (2 * n)))))), ((r 38), aI E 64 (upd gx (2 * c9) (nI 4))), ((r 39), aI E 64 (upd gy (2 * c9) (nI (8 * (c9 / 2))))), ((r 40), aI E 64 (upd gw (2 * c9) (nI 3))), ((r 41), aI E 64 (upd gt (2 * c9) (nI 0)))] := hD
              refine lv_aload_n hx hb dX12_begins_295 rfl (lv_at hl 3 rfl) ?_
              refine lv_iload hx hb dX12_begins_296 (lv_at hl 1 rfl) ?_
              refine lv_iconst (v := nI 1) hx hb dX12_begins_298 (by decide) ?_
              refine lv_iadd hx hb dX12_begins_299 ?_
              rw [nI_add (2 * c9) 1]
              refine lv_iload hx hb dX12_begins_300 (lv_at hl 2 rfl) ?_
              refine lv_if_eq (tgt := 309) hx hb dX12_begins_302 (by decide) (fun c_74 => ?_) (fun c_74 => absurd (by decide) c_74)
              refine lv_iconst (v := nI 4) hx hb dX12_begins_309 (by decide) ?_
              refine lv_iload hx hb dX12_begins_310 (lv_at hl 2 rfl) ?_
              refine lv_if_eq (tgt := 320) hx hb dX12_begins_312 (by decide) (fun c_75 => ?_) (fun c_75 => absurd (by decide) c_75)
              refine lv_iload hx hb dX12_begins_320 (lv_at hl 0 rfl) ?_
              refine lv_iconst (v := nI 4) hx hb dX12_begins_322 (by decide) ?_
              refine lv_iadd hx hb dX12_begins_323 ?_
              rw [nI_add (8 * (c9 / 2)) 4]
              refine lv_iload hx hb dX12_begins_324 (lv_at hl 2 rfl) ?_
              refine lv_if_eq (tgt := 333) hx hb dX12_begins_326 (by decide) (fun c_76 => ?_) (fun c_76 => absurd (by decide) c_76)
              refine lv_iconst (v := nI 3) hx hb dX12_begins_333 (by decide) ?_
              refine cV_go (wr := [((r 44), aI E 64 ex), ((r 45), aI E 64 ey), ((r 46), aI E 64 ew)]) (cM_runV (As := [.int (nI (2 * c9 + 1)), .int (nI 4), .int (nI (8 * (c9 / 2) + 4)), .int (nI 3)]) (rest := []) F (c_X12_stands l E h0 r (updG g 37 (.int (nI (2 * n)))) (upd gx (2 * c9) (nI 4)) (upd gy (2 * c9) (nI (8 * (c9 / 2)))) (upd gw (2 * c9) (nI 3)) (upd gt (2 * c9) (nI 0)) (2 * c9 + 1) (nI 4) (nI (8 * (c9 / 2) + 4)) (nI 3) (mOK_u hR rfl) (by omega)) yy_X12_stands yi_X12_stands wdM_RX12_234 hP hD hS hK hZ hA [3, 4, 5, 6, 7] rfl rfl 3 12 rfl rfl rfl hl.1 rfl (Nat.le_of_ble_eq_true rfl) dX12_begins_334 ⟨by decide, by decide⟩ ⟨by decide, by decide⟩) hP hD hS hA [3, 4, 5, 6, 7] [0, 1, 2] rfl rfl rfl (by decide) (fun u_78 H locs hw_77 hP hD hS => ?_)
              try dsimp only at hw_77
              have hP : va_P E.1 vwCl [((r 44), aI E 64 ex), ((r 45), aI E 64 ey), ((r 46), aI E 64 ew), (h0, ob 12 (mfs (updG g 37 (.int (nI (2 * n)))))), ((r 38), aI E 64 (upd (upd gx (2 * c9) (nI 4)) (2 * c9 + 1) (nI 4))), ((r 39), aI E 64 (upd (upd gy (2 * c9) (nI (8 * (c9 / 2)))) (2 * c9 + 1) (nI (8 * (c9 / 2) + 4)))), ((r 40), aI E 64 (upd (upd gw (2 * c9) (nI 3)) (2 * c9 + 1) (nI 3))), ((r 41), aI E 64 (upd (upd gt (2 * c9) (nI 0)) (2 * c9 + 1) (nI 0)))] H := hP
              have hD : va_D A [((r 44), aI E 64 ex), ((r 45), aI E 64 ey), ((r 46), aI E 64 ew), (h0, ob 12 (mfs (updG g 37 (.int (nI (2 * n)))))), ((r 38), aI E 64 (upd (upd gx (2 * c9) (nI 4)) (2 * c9 + 1) (nI 4))), ((r 39), aI E 64 (upd (upd gy (2 * c9) (nI (8 * (c9 / 2)))) (2 * c9 + 1) (nI (8 * (c9 / 2) + 4)))), ((r 40), aI E 64 (upd (upd gw (2 * c9) (nI 3)) (2 * c9 + 1) (nI 3))), ((r 41), aI E 64 (upd (upd gt (2 * c9) (nI 0)) (2 * c9 + 1) (nI 0)))] := hD
              refine lv_iinc (v := nI (c9 + 1)) (lv' := [(3, .int (nI (c9 + 1))), (6, .int (nI (8 * (c9 / 2)))), (5, .int (nI (2 * c9))), (4, .int (nI 0)), (0, .ref h0), (1, .int (nI 3)), (2, .int (nI n))]) hx hb dX12_begins_337 hl (k := 6) rfl (nI_1 c9) (by decide) rfl (fun ls hl => ?_)
              refine lv_goto (tgt := 120) hx hb dX12_begins_340 (by decide) ?_
              obtain ⟨hs1, hs2⟩ := bg_3_1 c9 (by omega) c4
              exact ih_lc (c9 + 1) (upd (upd gx (2 * c9) (nI 4)) (2 * c9 + 1) (nI 4)) (upd (upd gy (2 * c9) (nI (8 * (c9 / 2)))) (2 * c9 + 1) (nI (8 * (c9 / 2) + 4))) (upd (upd gw (2 * c9) (nI 3)) (2 * c9 + 1) (nI 3)) (upd (upd gt (2 * c9) (nI 0)) (2 * c9 + 1) (nI 0)) (by omega) (by omega) (flo_2 hF hs1 hs2) (trn_2 hT) _ _ _ (hP.sub [3, 4, 5, 6, 7, 0, 1, 2] rfl) (hD.sub [3, 4, 5, 6, 7, 0, 1, 2] rfl rfl) hS (lv_sub hl [4, 5, 6, 0] rfl)
          · have c4 : c9 % 2 = 0 := (nI_eq (by omega) (by decide)).mp c3
            refine lv_iconst (v := nI 1) hx hb dX12_begins_135 (by decide) ?_
            refine lv_goto (tgt := 140) hx hb dX12_begins_136 (by decide) ?_
            refine lv_istore (lv' := [(4, .int (nI 1)), (0, .ref h0), (1, .int (nI k)), (2, .int (nI n)), (3, .int (nI c9))]) hx hb dX12_begins_140 hl (by decide) rfl (fun ls hl => ?_)
            refine lv_iconst (v := nI 2) hx hb dX12_begins_142 (by decide) ?_
            refine lv_iload_n hx hb dX12_begins_143 rfl (lv_at hl 4 rfl) ?_
            refine lv_imul hx hb dX12_begins_144 ?_
            rw [pk_mul 2 c9]
            refine lv_istore (lv' := [(5, .int (nI (2 * c9))), (4, .int (nI 1)), (0, .ref h0), (1, .int (nI k)), (2, .int (nI n)), (3, .int (nI c9))]) hx hb dX12_begins_145 hl (by decide) rfl (fun ls hl => ?_)
            refine lv_bipush (v := nI 8) hx hb dX12_begins_147 (by decide) ?_
            refine lv_iload_n hx hb dX12_begins_149 rfl (lv_at hl 5 rfl) ?_
            refine lv_iconst (v := nI 2) hx hb dX12_begins_150 (by decide) ?_
            refine lv_idiv hx hb dX12_begins_151 (by decide) ?_
            rw [show ((nI c9) / (nI 2) : Int32) = nI (c9 / 2) from pk_div (by omega) (by decide) (by decide)]
            refine lv_imul hx hb dX12_begins_152 ?_
            rw [pk_mul 8 (c9 / 2)]
            refine lv_istore (lv' := [(6, .int (nI (8 * (c9 / 2)))), (5, .int (nI (2 * c9))), (4, .int (nI 1)), (0, .ref h0), (1, .int (nI k)), (2, .int (nI n)), (3, .int (nI c9))]) hx hb dX12_begins_153 hl (by decide) rfl (fun ls hl => ?_)
            rcases (show k = 1 ∨ k = 2 ∨ k = 3 by omega) with rfl | rfl | rfl
            · refine lv_iload_n hx hb dX12_begins_155 rfl (lv_at hl 4 rfl) ?_
              refine lv_iconst (v := nI 1) hx hb dX12_begins_156 (by decide) ?_
              refine lv_icmp_ne (tgt := 187) hx hb dX12_begins_157 (by decide) (fun c_80 => absurd (by decide) c_80) (fun c_80 => ?_)
              refine lv_aload_n hx hb dX12_begins_160 rfl (lv_at hl 3 rfl) ?_
              refine lv_iload hx hb dX12_begins_161 (lv_at hl 1 rfl) ?_
              refine lv_iconst (v := nI 0) hx hb dX12_begins_163 (by decide) ?_
              refine lv_iconst (v := nI 4) hx hb dX12_begins_164 (by decide) ?_
              refine lv_iload_n hx hb dX12_begins_165 rfl (lv_at hl 6 rfl) ?_
              refine lv_imul hx hb dX12_begins_166 ?_
              rw [pk_mul 4 c9]
              refine lv_iconst (v := nI 1) hx hb dX12_begins_167 (by decide) ?_
              refine cV_go (wr := [((r 44), aI E 64 ex), ((r 45), aI E 64 ey), ((r 46), aI E 64 ew)]) (cM_runV (As := [.int (nI (2 * c9)), .int (nI 0), .int (nI (4 * c9)), .int (nI 1)]) (rest := []) F (c_X12_stands l E h0 r (updG g 37 (.int (nI (2 * n)))) gx gy gw gt (2 * c9) (nI 0) (nI (4 * c9)) (nI 1) (mOK_u hR rfl) (by omega)) yy_X12_stands yi_X12_stands wdM_RX12_234 hP hD hS hK hZ hA [0, 1, 2, 3, 4] rfl rfl 0 12 rfl rfl rfl hl.1 rfl (Nat.le_of_ble_eq_true rfl) dX12_begins_168 ⟨by decide, by decide⟩ ⟨by decide, by decide⟩) hP hD hS hA [0, 1, 2, 3, 4] [5, 6, 7] rfl rfl rfl (by decide) (fun u_82 H locs hw_81 hP hD hS => ?_)
              try dsimp only at hw_81
              have hP : va_P E.1 vwCl [((r 44), aI E 64 ex), ((r 45), aI E 64 ey), ((r 46), aI E 64 ew), (h0, ob 12 (mfs (updG g 37 (.int (nI (2 * n)))))), ((r 38), aI E 64 (upd gx (2 * c9) (nI 0))), ((r 39), aI E 64 (upd gy (2 * c9) (nI (4 * c9)))), ((r 40), aI E 64 (upd gw (2 * c9) (nI 1))), ((r 41), aI E 64 (upd gt (2 * c9) (nI 0)))] H := hP
              have hD : va_D A [((r 44), aI E 64 ex), ((r 45), aI E 64 ey), ((r 46), aI E 64 ew), (h0, ob 12 (mfs (updG g 37 (.int (nI (2 * n)))))), ((r 38), aI E 64 (upd gx (2 * c9) (nI 0))), ((r 39), aI E 64 (upd gy (2 * c9) (nI (4 * c9)))), ((r 40), aI E 64 (upd gw (2 * c9) (nI 1))), ((r 41), aI E 64 (upd gt (2 * c9) (nI 0)))] := hD
              refine lv_aload_n hx hb dX12_begins_171 rfl (lv_at hl 3 rfl) ?_
              refine lv_iload hx hb dX12_begins_172 (lv_at hl 1 rfl) ?_
              refine lv_iconst (v := nI 1) hx hb dX12_begins_174 (by decide) ?_
              refine lv_iadd hx hb dX12_begins_175 ?_
              rw [nI_add (2 * c9) 1]
              refine lv_iconst (v := nI 4) hx hb dX12_begins_176 (by decide) ?_
              refine lv_iconst (v := nI 4) hx hb dX12_begins_177 (by decide) ?_
              refine lv_iload_n hx hb dX12_begins_178 rfl (lv_at hl 6 rfl) ?_
              refine lv_imul hx hb dX12_begins_179 ?_
              rw [pk_mul 4 c9]
              refine lv_iconst (v := nI 3) hx hb dX12_begins_180 (by decide) ?_
              refine cV_go (wr := [((r 44), aI E 64 ex), ((r 45), aI E 64 ey), ((r 46), aI E 64 ew)]) (cM_runV (As := [.int (nI (2 * c9 + 1)), .int (nI 4), .int (nI (4 * c9)), .int (nI 3)]) (rest := []) F (c_X12_stands l E h0 r (updG g 37 (.int (nI (2 * n)))) (upd gx (2 * c9) (nI 0)) (upd gy (2 * c9) (nI (4 * c9))) (upd gw (2 * c9) (nI 1)) (upd gt (2 * c9) (nI 0)) (2 * c9 + 1) (nI 4) (nI (4 * c9)) (nI 3) (mOK_u hR rfl) (by omega)) yy_X12_stands yi_X12_stands wdM_RX12_234 hP hD hS hK hZ hA [3, 4, 5, 6, 7] rfl rfl 3 12 rfl rfl rfl hl.1 rfl (Nat.le_of_ble_eq_true rfl) dX12_begins_181 ⟨by decide, by decide⟩ ⟨by decide, by decide⟩) hP hD hS hA [3, 4, 5, 6, 7] [0, 1, 2] rfl rfl rfl (by decide) (fun u_85 H locs hw_84 hP hD hS => ?_)
              try dsimp only at hw_84
              have hP : va_P E.1 vwCl [((r 44), aI E 64 ex), ((r 45), aI E 64 ey), ((r 46), aI E 64 ew), (h0, ob 12 (mfs (updG g 37 (.int (nI (2 * n)))))), ((r 38), aI E 64 (upd (upd gx (2 * c9) (nI 0)) (2 * c9 + 1) (nI 4))), ((r 39), aI E 64 (upd (upd gy (2 * c9) (nI (4 * c9))) (2 * c9 + 1) (nI (4 * c9)))), ((r 40), aI E 64 (upd (upd gw (2 * c9) (nI 1)) (2 * c9 + 1) (nI 3))), ((r 41), aI E 64 (upd (upd gt (2 * c9) (nI 0)) (2 * c9 + 1) (nI 0)))] H := hP
              have hD : va_D A [((r 44), aI E 64 ex), ((r 45), aI E 64 ey), ((r 46), aI E 64 ew), (h0, ob 12 (mfs (updG g 37 (.int (nI (2 * n)))))), ((r 38), aI E 64 (upd (upd gx (2 * c9) (nI 0)) (2 * c9 + 1) (nI 4))), ((r 39), aI E 64 (upd (upd gy (2 * c9) (nI (4 * c9))) (2 * c9 + 1) (nI (4 * c9)))), ((r 40), aI E 64 (upd (upd gw (2 * c9) (nI 1)) (2 * c9 + 1) (nI 3))), ((r 41), aI E 64 (upd (upd gt (2 * c9) (nI 0)) (2 * c9 + 1) (nI 0)))] := hD
              refine lv_goto (tgt := 337) hx hb dX12_begins_184 (by decide) ?_
              refine lv_iinc (v := nI (c9 + 1)) (lv' := [(3, .int (nI (c9 + 1))), (6, .int (nI (8 * (c9 / 2)))), (5, .int (nI (2 * c9))), (4, .int (nI 1)), (0, .ref h0), (1, .int (nI 1)), (2, .int (nI n))]) hx hb dX12_begins_337 hl (k := 6) rfl (nI_1 c9) (by decide) rfl (fun ls hl => ?_)
              refine lv_goto (tgt := 120) hx hb dX12_begins_340 (by decide) ?_
              obtain ⟨hs1, hs2⟩ := bg_1_0 c9 (by omega) c4
              exact ih_lc (c9 + 1) (upd (upd gx (2 * c9) (nI 0)) (2 * c9 + 1) (nI 4)) (upd (upd gy (2 * c9) (nI (4 * c9))) (2 * c9 + 1) (nI (4 * c9))) (upd (upd gw (2 * c9) (nI 1)) (2 * c9 + 1) (nI 3)) (upd (upd gt (2 * c9) (nI 0)) (2 * c9 + 1) (nI 0)) (by omega) (by omega) (flo_2 hF hs1 hs2) (trn_2 hT) _ _ _ (hP.sub [3, 4, 5, 6, 7, 0, 1, 2] rfl) (hD.sub [3, 4, 5, 6, 7, 0, 1, 2] rfl rfl) hS (lv_sub hl [4, 5, 6, 0] rfl)
            · refine lv_iload_n hx hb dX12_begins_155 rfl (lv_at hl 4 rfl) ?_
              refine lv_iconst (v := nI 1) hx hb dX12_begins_156 (by decide) ?_
              refine lv_icmp_ne (tgt := 187) hx hb dX12_begins_157 (by decide) (fun c_87 => ?_) (fun c_87 => absurd c_87 (by decide))
              refine lv_iload_n hx hb dX12_begins_187 rfl (lv_at hl 4 rfl) ?_
              refine lv_iconst (v := nI 2) hx hb dX12_begins_188 (by decide) ?_
              refine lv_icmp_ne (tgt := 255) hx hb dX12_begins_189 (by decide) (fun c_88 => absurd (by decide) c_88) (fun c_88 => ?_)
              refine lv_aload_n hx hb dX12_begins_192 rfl (lv_at hl 3 rfl) ?_
              refine lv_iload hx hb dX12_begins_193 (lv_at hl 1 rfl) ?_
              refine lv_iload hx hb dX12_begins_195 (lv_at hl 2 rfl) ?_
              refine lv_if_eq (tgt := 204) hx hb dX12_begins_197 (by decide) (fun c_89 => absurd c_89 (by decide)) (fun c_89 => ?_)
              refine lv_iconst (v := nI 0) hx hb dX12_begins_200 (by decide) ?_
              refine lv_goto (tgt := 205) hx hb dX12_begins_201 (by decide) ?_
              refine lv_iconst (v := nI 4) hx hb dX12_begins_205 (by decide) ?_
              refine lv_iload_n hx hb dX12_begins_206 rfl (lv_at hl 6 rfl) ?_
              refine lv_imul hx hb dX12_begins_207 ?_
              rw [pk_mul 4 c9]
              refine lv_iload hx hb dX12_begins_208 (lv_at hl 2 rfl) ?_
              refine lv_if_eq (tgt := 217) hx hb dX12_begins_210 (by decide) (fun c_90 => absurd c_90 (by decide)) (fun c_90 => ?_)
              refine lv_iconst (v := nI 0) hx hb dX12_begins_213 (by decide) ?_
              refine lv_goto (tgt := 218) hx hb dX12_begins_214 (by decide) ?_
              refine cV_go (wr := [((r 44), aI E 64 ex), ((r 45), aI E 64 ey), ((r 46), aI E 64 ew)]) (cM_runV (As := [.int (nI (2 * c9)), .int (nI 0), .int (nI (4 * c9)), .int (nI 0)]) (rest := []) F (c_X12_stands l E h0 r (updG g 37 (.int (nI (2 * n)))) gx gy gw gt (2 * c9) (nI 0) (nI (4 * c9)) (nI 0) (mOK_u hR rfl) (by omega)) yy_X12_stands yi_X12_stands wdM_RX12_234 hP hD hS hK hZ hA [0, 1, 2, 3, 4] rfl rfl 0 12 rfl rfl rfl hl.1 rfl (Nat.le_of_ble_eq_true rfl) dX12_begins_218 ⟨by decide, by decide⟩ ⟨by decide, by decide⟩) hP hD hS hA [0, 1, 2, 3, 4] [5, 6, 7] rfl rfl rfl (by decide) (fun u_92 H locs hw_91 hP hD hS => ?_)
              try dsimp only at hw_91
              have hP : va_P E.1 vwCl [((r 44), aI E 64 ex), ((r 45), aI E 64 ey), ((r 46), aI E 64 ew), (h0, ob 12 (mfs (updG g 37 (.int (nI (2 * n)))))), ((r 38), aI E 64 (upd gx (2 * c9) (nI 0))), ((r 39), aI E 64 (upd gy (2 * c9) (nI (4 * c9)))), ((r 40), aI E 64 (upd gw (2 * c9) (nI 0))), ((r 41), aI E 64 (upd gt (2 * c9) (nI 0)))] H := hP
              have hD : va_D A [((r 44), aI E 64 ex), ((r 45), aI E 64 ey), ((r 46), aI E 64 ew), (h0, ob 12 (mfs (updG g 37 (.int (nI (2 * n)))))), ((r 38), aI E 64 (upd gx (2 * c9) (nI 0))), ((r 39), aI E 64 (upd gy (2 * c9) (nI (4 * c9)))), ((r 40), aI E 64 (upd gw (2 * c9) (nI 0))), ((r 41), aI E 64 (upd gt (2 * c9) (nI 0)))] := hD
              refine lv_aload_n hx hb dX12_begins_221 rfl (lv_at hl 3 rfl) ?_
              refine lv_iload hx hb dX12_begins_222 (lv_at hl 1 rfl) ?_
              refine lv_iconst (v := nI 1) hx hb dX12_begins_224 (by decide) ?_
              refine lv_iadd hx hb dX12_begins_225 ?_
              rw [nI_add (2 * c9) 1]
              refine lv_iload hx hb dX12_begins_226 (lv_at hl 2 rfl) ?_
              refine lv_if_eq (tgt := 235) hx hb dX12_begins_228 (by decide) (fun c_94 => absurd c_94 (by decide)) (fun c_94 => ?_)
              refine lv_iconst (v := nI 4) hx hb dX12_begins_231 (by decide) ?_
              refine lv_goto (tgt := 236) hx hb dX12_begins_232 (by decide) ?_
              refine lv_iconst (v := nI 4) hx hb dX12_begins_236 (by decide) ?_
              refine lv_iload_n hx hb dX12_begins_237 rfl (lv_at hl 6 rfl) ?_
              refine lv_imul hx hb dX12_begins_238 ?_
              rw [pk_mul 4 c9]
              refine lv_iload hx hb dX12_begins_239 (lv_at hl 2 rfl) ?_
              refine lv_if_eq (tgt := 248) hx hb dX12_begins_241 (by decide) (fun c_95 => absurd c_95 (by decide)) (fun c_95 => ?_)
              refine lv_iconst (v := nI 0) hx hb dX12_begins_244 (by decide) ?_
              refine lv_goto (tgt := 249) hx hb dX12_begins_245 (by decide) ?_
              refine cV_go (wr := [((r 44), aI E 64 ex), ((r 45), aI E 64 ey), ((r 46), aI E 64 ew)]) (cM_runV (As := [.int (nI (2 * c9 + 1)), .int (nI 4), .int (nI (4 * c9)), .int (nI 0)]) (rest := []) F (c_X12_stands l E h0 r (updG g 37 (.int (nI (2 * n)))) (upd gx (2 * c9) (nI 0)) (upd gy (2 * c9) (nI (4 * c9))) (upd gw (2 * c9) (nI 0)) (upd gt (2 * c9) (nI 0)) (2 * c9 + 1) (nI 4) (nI (4 * c9)) (nI 0) (mOK_u hR rfl) (by omega)) yy_X12_stands yi_X12_stands wdM_RX12_234 hP hD hS hK hZ hA [3, 4, 5, 6, 7] rfl rfl 3 12 rfl rfl rfl hl.1 rfl (Nat.le_of_ble_eq_true rfl) dX12_begins_249 ⟨by decide, by decide⟩ ⟨by decide, by decide⟩) hP hD hS hA [3, 4, 5, 6, 7] [0, 1, 2] rfl rfl rfl (by decide) (fun u_97 H locs hw_96 hP hD hS => ?_)
              try dsimp only at hw_96
              have hP : va_P E.1 vwCl [((r 44), aI E 64 ex), ((r 45), aI E 64 ey), ((r 46), aI E 64 ew), (h0, ob 12 (mfs (updG g 37 (.int (nI (2 * n)))))), ((r 38), aI E 64 (upd (upd gx (2 * c9) (nI 0)) (2 * c9 + 1) (nI 4))), ((r 39), aI E 64 (upd (upd gy (2 * c9) (nI (4 * c9))) (2 * c9 + 1) (nI (4 * c9)))), ((r 40), aI E 64 (upd (upd gw (2 * c9) (nI 0)) (2 * c9 + 1) (nI 0))), ((r 41), aI E 64 (upd (upd gt (2 * c9) (nI 0)) (2 * c9 + 1) (nI 0)))] H := hP
              have hD : va_D A [((r 44), aI E 64 ex), ((r 45), aI E 64 ey), ((r 46), aI E 64 ew), (h0, ob 12 (mfs (updG g 37 (.int (nI (2 * n)))))), ((r 38), aI E 64 (upd (upd gx (2 * c9) (nI 0)) (2 * c9 + 1) (nI 4))), ((r 39), aI E 64 (upd (upd gy (2 * c9) (nI (4 * c9))) (2 * c9 + 1) (nI (4 * c9)))), ((r 40), aI E 64 (upd (upd gw (2 * c9) (nI 0)) (2 * c9 + 1) (nI 0))), ((r 41), aI E 64 (upd (upd gt (2 * c9) (nI 0)) (2 * c9 + 1) (nI 0)))] := hD
              refine lv_goto (tgt := 337) hx hb dX12_begins_252 (by decide) ?_
              refine lv_iinc (v := nI (c9 + 1)) (lv' := [(3, .int (nI (c9 + 1))), (6, .int (nI (8 * (c9 / 2)))), (5, .int (nI (2 * c9))), (4, .int (nI 1)), (0, .ref h0), (1, .int (nI 2)), (2, .int (nI n))]) hx hb dX12_begins_337 hl (k := 6) rfl (nI_1 c9) (by decide) rfl (fun ls hl => ?_)
              refine lv_goto (tgt := 120) hx hb dX12_begins_340 (by decide) ?_
              obtain ⟨hs1, hs2⟩ := bg_2_0 c9 (by omega) c4
              exact ih_lc (c9 + 1) (upd (upd gx (2 * c9) (nI 0)) (2 * c9 + 1) (nI 4)) (upd (upd gy (2 * c9) (nI (4 * c9))) (2 * c9 + 1) (nI (4 * c9))) (upd (upd gw (2 * c9) (nI 0)) (2 * c9 + 1) (nI 0)) (upd (upd gt (2 * c9) (nI 0)) (2 * c9 + 1) (nI 0)) (by omega) (by omega) (flo_2 hF hs1 hs2) (trn_2 hT) _ _ _ (hP.sub [3, 4, 5, 6, 7, 0, 1, 2] rfl) (hD.sub [3, 4, 5, 6, 7, 0, 1, 2] rfl rfl) hS (lv_sub hl [4, 5, 6, 0] rfl)
            · refine lv_iload_n hx hb dX12_begins_155 rfl (lv_at hl 4 rfl) ?_
              refine lv_iconst (v := nI 1) hx hb dX12_begins_156 (by decide) ?_
              refine lv_icmp_ne (tgt := 187) hx hb dX12_begins_157 (by decide) (fun c_99 => ?_) (fun c_99 => absurd c_99 (by decide))
              refine lv_iload_n hx hb dX12_begins_187 rfl (lv_at hl 4 rfl) ?_
              refine lv_iconst (v := nI 2) hx hb dX12_begins_188 (by decide) ?_
              refine lv_icmp_ne (tgt := 255) hx hb dX12_begins_189 (by decide) (fun c_100 => ?_) (fun c_100 => absurd c_100 (by decide))
              refine lv_aload_n hx hb dX12_begins_255 rfl (lv_at hl 3 rfl) ?_
              refine lv_iload hx hb dX12_begins_256 (lv_at hl 1 rfl) ?_
              refine lv_iload hx hb dX12_begins_258 (lv_at hl 2 rfl) ?_
              refine lv_if_eq (tgt := 267) hx hb dX12_begins_260 (by decide) (fun c_101 => absurd c_101 (by decide)) (fun c_101 => ?_)
              refine lv_iconst (v := nI 0) hx hb dX12_begins_263 (by decide) ?_
              refine lv_goto (tgt := 268) hx hb dX12_begins_264 (by decide) ?_
              refine lv_iload hx hb dX12_begins_268 (lv_at hl 2 rfl) ?_
              refine lv_if_eq (tgt := 280) hx hb dX12_begins_270 (by decide) (fun c_102 => absurd c_102 (by decide)) (fun c_102 => ?_)
              refine lv_iload hx hb dX12_begins_273 (lv_at hl 0 rfl) ?_
              refine lv_iconst (v := nI 4) hx hb dX12_begins_275 (by decide) ?_
              refine lv_iadd hx hb dX12_begins_276 ?_
              rw [nI_add (8 * (c9 / 2)) 4]
              refine lv_goto (tgt := 282) hx hb dX12_begins_277 (by decide) ?_
              refine lv_iload hx hb dX12_begins_282 (lv_at hl 2 rfl) ?_
              refine lv_if_eq (tgt := 291) hx hb dX12_begins_284 (by decide) (fun c_103 => absurd c_103 (by decide)) (fun c_103 => ?_)
              refine lv_iconst (v := nI 1) hx hb dX12_begins_287 (by decide) ?_
              refine lv_goto (tgt := 292) hx hb dX12_begins_288 (by decide) ?_
              refine cV_go (wr := [((r 44), aI E 64 ex), ((r 45), aI E 64 ey), ((r 46), aI E 64 ew)]) (cM_runV (As := [.int (nI (2 * c9)), .int (nI 0), .int (nI (8 * (c9 / 2) + 4)), .int (nI 1)]) (rest := []) F (c_X12_stands l E h0 r (updG g 37 (.int (nI (2 * n)))) gx gy gw gt (2 * c9) (nI 0) (nI (8 * (c9 / 2) + 4)) (nI 1) (mOK_u hR rfl) (by omega)) yy_X12_stands yi_X12_stands wdM_RX12_234 hP hD hS hK hZ hA [0, 1, 2, 3, 4] rfl rfl 0 12 rfl rfl rfl hl.1 rfl (Nat.le_of_ble_eq_true rfl) dX12_begins_292 ⟨by decide, by decide⟩ ⟨by decide, by decide⟩) hP hD hS hA [0, 1, 2, 3, 4] [5, 6, 7] rfl rfl rfl (by decide) (fun u_105 H locs hw_104 hP hD hS => ?_)
              try dsimp only at hw_104
              have hP : va_P E.1 vwCl [((r 44), aI E 64 ex), ((r 45), aI E 64 ey), ((r 46), aI E 64 ew), (h0, ob 12 (mfs (updG g 37 (.int (nI (2 * n)))))), ((r 38), aI E 64 (upd gx (2 * c9) (nI 0))), ((r 39), aI E 64 (upd gy (2 * c9) (nI (8 * (c9 / 2) + 4)))), ((r 40), aI E 64 (upd gw (2 * c9) (nI 1))), ((r 41), aI E 64 (upd gt (2 * c9) (nI 0)))] H := hP
              have hD : va_D A [((r 44), aI E 64 ex), ((r 45), aI E 64 ey), ((r 46), aI E 64 ew), (h0, ob 12 (mfs (updG g 37 (.int (nI (2 * n)))))), ((r 38), aI E 64 (upd gx (2 * c9) (nI 0))), ((r 39), aI E 64 (upd gy (2 * c9) (nI (8 * (c9 / 2) + 4)))), ((r 40), aI E 64 (upd gw (2 * c9) (nI 1))), ((r 41), aI E 64 (upd gt (2 * c9) (nI 0)))] := hD
              refine lv_aload_n hx hb dX12_begins_295 rfl (lv_at hl 3 rfl) ?_
              refine lv_iload hx hb dX12_begins_296 (lv_at hl 1 rfl) ?_
              refine lv_iconst (v := nI 1) hx hb dX12_begins_298 (by decide) ?_
              refine lv_iadd hx hb dX12_begins_299 ?_
              rw [nI_add (2 * c9) 1]
              refine lv_iload hx hb dX12_begins_300 (lv_at hl 2 rfl) ?_
              refine lv_if_eq (tgt := 309) hx hb dX12_begins_302 (by decide) (fun c_107 => absurd c_107 (by decide)) (fun c_107 => ?_)
              refine lv_iconst (v := nI 0) hx hb dX12_begins_305 (by decide) ?_
              refine lv_goto (tgt := 310) hx hb dX12_begins_306 (by decide) ?_
              refine lv_iload hx hb dX12_begins_310 (lv_at hl 2 rfl) ?_
              refine lv_if_eq (tgt := 320) hx hb dX12_begins_312 (by decide) (fun c_108 => absurd c_108 (by decide)) (fun c_108 => ?_)
              refine lv_iload hx hb dX12_begins_315 (lv_at hl 0 rfl) ?_
              refine lv_goto (tgt := 324) hx hb dX12_begins_317 (by decide) ?_
              refine lv_iload hx hb dX12_begins_324 (lv_at hl 2 rfl) ?_
              refine lv_if_eq (tgt := 333) hx hb dX12_begins_326 (by decide) (fun c_109 => absurd c_109 (by decide)) (fun c_109 => ?_)
              refine lv_iconst (v := nI 1) hx hb dX12_begins_329 (by decide) ?_
              refine lv_goto (tgt := 334) hx hb dX12_begins_330 (by decide) ?_
              refine cV_go (wr := [((r 44), aI E 64 ex), ((r 45), aI E 64 ey), ((r 46), aI E 64 ew)]) (cM_runV (As := [.int (nI (2 * c9 + 1)), .int (nI 0), .int (nI (8 * (c9 / 2))), .int (nI 1)]) (rest := []) F (c_X12_stands l E h0 r (updG g 37 (.int (nI (2 * n)))) (upd gx (2 * c9) (nI 0)) (upd gy (2 * c9) (nI (8 * (c9 / 2) + 4))) (upd gw (2 * c9) (nI 1)) (upd gt (2 * c9) (nI 0)) (2 * c9 + 1) (nI 0) (nI (8 * (c9 / 2))) (nI 1) (mOK_u hR rfl) (by omega)) yy_X12_stands yi_X12_stands wdM_RX12_234 hP hD hS hK hZ hA [3, 4, 5, 6, 7] rfl rfl 3 12 rfl rfl rfl hl.1 rfl (Nat.le_of_ble_eq_true rfl) dX12_begins_334 ⟨by decide, by decide⟩ ⟨by decide, by decide⟩) hP hD hS hA [3, 4, 5, 6, 7] [0, 1, 2] rfl rfl rfl (by decide) (fun u_111 H locs hw_110 hP hD hS => ?_)
              try dsimp only at hw_110
              have hP : va_P E.1 vwCl [((r 44), aI E 64 ex), ((r 45), aI E 64 ey), ((r 46), aI E 64 ew), (h0, ob 12 (mfs (updG g 37 (.int (nI (2 * n)))))), ((r 38), aI E 64 (upd (upd gx (2 * c9) (nI 0)) (2 * c9 + 1) (nI 0))), ((r 39), aI E 64 (upd (upd gy (2 * c9) (nI (8 * (c9 / 2) + 4))) (2 * c9 + 1) (nI (8 * (c9 / 2))))), ((r 40), aI E 64 (upd (upd gw (2 * c9) (nI 1)) (2 * c9 + 1) (nI 1))), ((r 41), aI E 64 (upd (upd gt (2 * c9) (nI 0)) (2 * c9 + 1) (nI 0)))] H := hP
              have hD : va_D A [((r 44), aI E 64 ex), ((r 45), aI E 64 ey), ((r 46), aI E 64 ew), (h0, ob 12 (mfs (updG g 37 (.int (nI (2 * n)))))), ((r 38), aI E 64 (upd (upd gx (2 * c9) (nI 0)) (2 * c9 + 1) (nI 0))), ((r 39), aI E 64 (upd (upd gy (2 * c9) (nI (8 * (c9 / 2) + 4))) (2 * c9 + 1) (nI (8 * (c9 / 2))))), ((r 40), aI E 64 (upd (upd gw (2 * c9) (nI 1)) (2 * c9 + 1) (nI 1))), ((r 41), aI E 64 (upd (upd gt (2 * c9) (nI 0)) (2 * c9 + 1) (nI 0)))] := hD
              refine lv_iinc (v := nI (c9 + 1)) (lv' := [(3, .int (nI (c9 + 1))), (6, .int (nI (8 * (c9 / 2)))), (5, .int (nI (2 * c9))), (4, .int (nI 1)), (0, .ref h0), (1, .int (nI 3)), (2, .int (nI n))]) hx hb dX12_begins_337 hl (k := 6) rfl (nI_1 c9) (by decide) rfl (fun ls hl => ?_)
              refine lv_goto (tgt := 120) hx hb dX12_begins_340 (by decide) ?_
              obtain ⟨hs1, hs2⟩ := bg_3_0 c9 (by omega) c4
              exact ih_lc (c9 + 1) (upd (upd gx (2 * c9) (nI 0)) (2 * c9 + 1) (nI 0)) (upd (upd gy (2 * c9) (nI (8 * (c9 / 2) + 4))) (2 * c9 + 1) (nI (8 * (c9 / 2)))) (upd (upd gw (2 * c9) (nI 1)) (2 * c9 + 1) (nI 1)) (upd (upd gt (2 * c9) (nI 0)) (2 * c9 + 1) (nI 0)) (by omega) (by omega) (flo_2 hF hs1 hs2) (trn_2 hT) _ _ _ (hP.sub [3, 4, 5, 6, 7, 0, 1, 2] rfl) (hD.sub [3, 4, 5, 6, 7, 0, 1, 2] rfl rfl) hS (lv_sub hl [4, 5, 6, 0] rfl)
    exact lc (n + 1) 0 mx my mw mt (by omega) (by omega) (fun d h => absurd h (by omega)) (fun d h => absurd h (by omega)) _ _ _ hP hD hS (lv_sub hl [1, 2, 3, 0] rfl)
