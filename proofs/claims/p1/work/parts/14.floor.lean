theorem clrS_upd {cd : Nat → Nat} {f : Nat → Int32} {n : Nat} : upd (clrS cd f n) (cd n / 4) 0 = clrS cd f (n + 1) := by
  funext s
  show (if s = cd n / 4 then (0 : Int32) else clrS cd f n s) = (if cd n / 4 = s then 0 else clrS cd f n s)
  by_cases h : s = cd n / 4
  · rw [if_pos h, if_pos h.symm]
  · rw [if_neg h, if_neg (fun q => h q.symm)]
theorem seatOf_upd {cd : Nat → Nat} {n : Nat} : upd (seatOf cd n) (cd n / 4) (nI (n + 1)) = seatOf cd (n + 1) := by
  funext s
  show (if s = cd n / 4 then nI (n + 1) else seatOf cd n s) = (if cd n / 4 = s then nI (n + 1) else seatOf cd n s)
  by_cases h : s = cd n / 4
  · rw [if_pos h, if_pos h.symm]
  · rw [if_neg h, if_neg (fun q => h q.symm)]
theorem faOf_upd {cd : Nat → Nat} {n : Nat} : vp_updL (faOf cd n) (cd n % 4) (faOf cd n (cd n % 4) ||| 1 <<< ((nI n).toInt64 &&& 63)) = faOf cd (n + 1) := by
  funext s
  show (if s = cd n % 4 then _ else faOf cd n s) = (if cd n % 4 = s then _ else faOf cd n s)
  by_cases h : s = cd n % 4
  · rw [if_pos h, if_pos h.symm, h]
  · rw [if_neg h, if_neg (fun q => h q.symm)]
theorem cw_narB : ∀ {n : Nat}, n < 64 → vp_nar .byte (nI (n + 1)).toInt8.toInt32 = nI (n + 1) := by
  have h : ∀ n, n < 64 → vp_nar .byte (nI (n + 1)).toInt8.toInt32 = nI (n + 1) := by decide +kernel
  exact fun {n} => h n
theorem flo_upd {cd : Nat → Nat} {k : Nat} {fx fy ff : Nat → Int32} (h : flo cd k fx fy ff) (hk : cd k < 16384) : flo cd (k + 1) (upd fx k (nI (4 * (cd k / 4 % 64)))) (upd fy k (nI (4 * (cd k / 256)))) (upd ff k (nI (cd k % 4))) := by
  intro d hd
  by_cases e : d = k
  · rw [e, pk_us, pk_us, pk_us]
    exact ⟨hk, rfl, rfl, rfl⟩
  · rw [pk_un e, pk_un e, pk_un e]
    exact h d (by omega)
theorem dJ7_fill_d0a16_0 : decode cJ7_fill_d0a16 0 = .ok (.iconst 0, 1) := by decide +kernel
theorem dJ7_fill_d0a16_1 : decode cJ7_fill_d0a16 1 = .ok (.istore_n 3, 1) := by decide +kernel
theorem dJ7_fill_d0a16_2 : decode cJ7_fill_d0a16 2 = .ok (.aload_n 0, 1) := by decide +kernel
theorem dJ7_fill_d0a16_3 : decode cJ7_fill_d0a16 3 = .ok (.arraylength, 1) := by decide +kernel
theorem dJ7_fill_d0a16_4 : decode cJ7_fill_d0a16 4 = .ok (.istore 4, 2) := by decide +kernel
theorem dJ7_fill_d0a16_6 : decode cJ7_fill_d0a16 6 = .ok (.iload_n 3, 1) := by decide +kernel
theorem dJ7_fill_d0a16_7 : decode cJ7_fill_d0a16 7 = .ok (.iload 4, 2) := by decide +kernel
theorem dJ7_fill_d0a16_9 : decode cJ7_fill_d0a16 9 = .ok (.if_icmp .ge 13, 3) := by decide +kernel
theorem dJ7_fill_d0a16_12 : decode cJ7_fill_d0a16 12 = .ok (.aload_n 0, 1) := by decide +kernel
theorem dJ7_fill_d0a16_13 : decode cJ7_fill_d0a16 13 = .ok (.iload_n 3, 1) := by decide +kernel
theorem dJ7_fill_d0a16_14 : decode cJ7_fill_d0a16 14 = .ok (.lload_n 1, 1) := by decide +kernel
theorem dJ7_fill_d0a16_15 : decode cJ7_fill_d0a16 15 = .ok (.lastore, 1) := by decide +kernel
theorem dJ7_fill_d0a16_16 : decode cJ7_fill_d0a16 16 = .ok (.iinc 3 1, 3) := by decide +kernel
theorem dJ7_fill_d0a16_19 : decode cJ7_fill_d0a16 19 = .ok (.goto (-13), 3) := by decide +kernel
theorem dJ7_fill_d0a16_22 : decode cJ7_fill_d0a16 22 = .ok (.return_, 1) := by decide +kernel
abbrev rm_c_J7_fill_d0a16 : Room := { frames := 0, cells := 0, slots := 0, locals := 0 }
set_option maxHeartbeats 4000000 in
set_option maxRecDepth 100000 in
theorem c_J7_fill_d0a16 (l : Launch) (E : cE) (q : Nat) (n : Nat) (f : Nat → Int64) (v : Int64) (hn9 : n < 2 ^ 31) : cM l E yJ7_fill_d0a16 cJ7_fill_d0a16 5 none rm_c_J7_fill_d0a16 [.ref q, .long v] [(q, aJ E n f)] (qV E (fun (g : Nat → Int64) => ∀ j, j < n → g j = v) (fun (g : Nat → Int64) => [(q, aJ E n g)])) := by
  refine cM_of (by decide) (Nat.le_of_ble_eq_true rfl) ?_
  intro p e s m below meth c ls A F hA hS hP hD hK hZ hl
  obtain ⟨hx, hb, hr, hml, hown, hts, hlk, hin⟩ := id F
  have hown : s.vm.findClass RJ7 = some m.cls := hown
  have hl : lv_has ls 5 [(0, .ref q), (1, .long v)] := hl
  refine lv_iconst (v := nI 0) hx hb dJ7_fill_d0a16_0 (by decide) ?_
  refine lv_istore_n (lv' := [(3, .int (nI 0)), (0, .ref q), (1, .long v)]) hx hb dJ7_fill_d0a16_1 rfl hl (by decide) rfl (fun ls hl => ?_)
  refine lv_aload_n hx hb dJ7_fill_d0a16_2 rfl (lv_at hl 1 rfl) ?_
  refine va_alen hx hb hK hP 0 2 rfl rfl (v := nI n) rfl dJ7_fill_d0a16_3 ?_
  refine lv_istore (lv' := [(4, .int (nI n)), (3, .int (nI 0)), (0, .ref q), (1, .long v)]) hx hb dJ7_fill_d0a16_4 hl (by decide) rfl (fun ls hl => ?_)
  have lp : ∀ (n_lp : Nat) (i : Nat) (g : Nat → Int64) (hn : n + 1 ≤ i + n_lp) (hi : i ≤ n) (hg : ∀ j, j < i → g j = v) (H : Heap) (locs : List Loc) (ls : Array Slot), va_P E.1 vwCl [(q, aJ E n g)] H → va_D A [(q, aJ E n g)] → va_S A s.heap H locs → lv_has ls 5 [(0, .ref q), (1, .long v), (3, .int (nI i)), (4, .int (nI n))] → W p l e rm_c_J7_fill_d0a16 s m ([.ref q, .long v] : List Value).toArray below meth c H locs 0 0 (MQ below ((qV E (fun (g : Nat → Int64) => ∀ j, j < n → g j = v) (fun (g : Nat → Int64) => [(q, aJ E n g)])) A) ([.ref q, .long v] : List Value).toArray s (rm_c_J7_fill_d0a16).cells (rm_c_J7_fill_d0a16).slots A) (F0 m 6 ls []) := by
    intro n_lp
    induction n_lp with
    | zero =>
      intro i g hn hi hg
      exfalso; omega
    | succ n_lp ih_lp =>
      intro i g hn hi hg H locs ls hP hD hS hl
      refine lv_iload_n hx hb dJ7_fill_d0a16_6 rfl (lv_at hl 2 rfl) ?_
      refine lv_iload hx hb dJ7_fill_d0a16_7 (lv_at hl 3 rfl) ?_
      refine lv_icmp_ge (tgt := 22) hx hb dJ7_fill_d0a16_9 (by decide) (fun c1 => ?_) (fun c1 => ?_)
      · have c2 : n ≤ i := (nI_leI (by omega) (by omega)).mp c1
        exact cV_ret F hP hD hS hK g (fun j hj => hg j (by omega)) [0] rfl rfl dJ7_fill_d0a16_22 (by decide) (by decide)
      · have c2 : i < n := Nat.lt_of_not_le (fun h => c1 (nI_le h (by omega)))
        refine lv_aload_n hx hb dJ7_fill_d0a16_12 rfl (lv_at hl 0 rfl) ?_
        refine lv_iload_n hx hb dJ7_fill_d0a16_13 rfl (lv_at hl 2 rfl) ?_
        refine lv_lload_n hx hb dJ7_fill_d0a16_14 rfl (lv_at hl 1 rfl) ?_
        refine va_last hx hb hK hP hD hS 0 2 rfl rfl (vp_in_nI c2 (by omega)) dJ7_fill_d0a16_15 (fun H locs hP hD hS => ?_)
        have hP : va_P E.1 vwCl [(q, aJ E n (vp_updL g (nI i).toNatClampNeg v))] H := hP
        have hD : va_D A [(q, aJ E n (vp_updL g (nI i).toNatClampNeg v))] := hD
        rw [nI_clamp (n := i) (by omega)] at hP hD
        refine lv_iinc (v := nI (i + 1)) (lv' := [(3, .int (nI (i + 1))), (0, .ref q), (1, .long v), (4, .int (nI n))]) hx hb dJ7_fill_d0a16_16 hl (k := 2) rfl (nI_1 i) (by decide) rfl (fun ls hl => ?_)
        refine lv_goto (tgt := 6) hx hb dJ7_fill_d0a16_19 (by decide) ?_
        exact ih_lp (i + 1) (vp_updL g i v) (by omega) (by omega) (fun j hj => (Decidable.em (j = i)).elim (fun h => by rw [h]; exact pk_uLs) (fun h => by rw [pk_uLn h]; exact hg j (by omega))) _ _ _ hP hD hS (lv_sub hl [1, 2, 0, 3] rfl)
  exact lp (n + 1) 0 f (by omega) (by omega) (fun j h => absurd h (by omega)) _ _ _ hP hD hS (lv_sub hl [2, 3, 1, 0] rfl)
theorem yy_J7_fill_d0a16 : cY yJ7_fill_d0a16 cJ7_fill_d0a16 5 none 2 := ⟨wdK_J7_fill_d0a16, wdZ_RJ7, by decide +kernel⟩
theorem dX3_codeOf_0 : decode cX3_codeOf 0 = .ok (.iload_n 1, 1) := by decide +kernel
theorem dX3_codeOf_1 : decode cX3_codeOf 1 = .ok (.iconst 4, 1) := by decide +kernel
theorem dX3_codeOf_2 : decode cX3_codeOf 2 = .ok (.ishl, 1) := by decide +kernel
theorem dX3_codeOf_3 : decode cX3_codeOf 3 = .ok (.iload_n 0, 1) := by decide +kernel
theorem dX3_codeOf_4 : decode cX3_codeOf 4 = .ok (.iconst 2, 1) := by decide +kernel
theorem dX3_codeOf_5 : decode cX3_codeOf 5 = .ok (.ishr, 1) := by decide +kernel
theorem dX3_codeOf_6 : decode cX3_codeOf 6 = .ok (.iadd, 1) := by decide +kernel
theorem dX3_codeOf_7 : decode cX3_codeOf 7 = .ok (.iconst 2, 1) := by decide +kernel
theorem dX3_codeOf_8 : decode cX3_codeOf 8 = .ok (.ishl, 1) := by decide +kernel
theorem dX3_codeOf_9 : decode cX3_codeOf 9 = .ok (.iload_n 2, 1) := by decide +kernel
theorem dX3_codeOf_10 : decode cX3_codeOf 10 = .ok (.ior, 1) := by decide +kernel
theorem dX3_codeOf_11 : decode cX3_codeOf 11 = .ok (.ireturn, 1) := by decide +kernel
abbrev rm_c_X3_codeOf : Room := { frames := 0, cells := 0, slots := 0, locals := 0 }
set_option maxHeartbeats 4000000 in
set_option maxRecDepth 100000 in
theorem c_X3_codeOf (l : Launch) (E : cE) (x : Int32) (y : Int32) (f : Int32) : cM l E yX3_codeOf cX3_codeOf 3 (some .int) rm_c_X3_codeOf [.int x, .int y, .int f] [] (qI E (fun (r : Int32) (_u : Unit) => r = cdE x y f) (fun _ => [])) := by
  refine cM_of (by decide) (Nat.le_of_ble_eq_true rfl) ?_
  intro p e s m below meth c ls A F hA hS hP hD hK hZ hl
  obtain ⟨hx, hb, hr, hml, hown, hts, hlk, hin⟩ := id F
  have hown : s.vm.findClass RX3 = some m.cls := hown
  have hl : lv_has ls 3 [(0, .int x), (1, .int y), (2, .int f)] := hl
  refine lv_iload_n hx hb dX3_codeOf_0 rfl (lv_at hl 1 rfl) ?_
  refine lv_iconst (v := nI 4) hx hb dX3_codeOf_1 (by decide) ?_
  refine lv_ishl hx hb dX3_codeOf_2 ?_
  refine lv_iload_n hx hb dX3_codeOf_3 rfl (lv_at hl 0 rfl) ?_
  refine lv_iconst (v := nI 2) hx hb dX3_codeOf_4 (by decide) ?_
  refine lv_ishr hx hb dX3_codeOf_5 ?_
  refine lv_iadd hx hb dX3_codeOf_6 ?_
  refine lv_iconst (v := nI 2) hx hb dX3_codeOf_7 (by decide) ?_
  refine lv_ishl hx hb dX3_codeOf_8 ?_
  refine lv_iload_n hx hb dX3_codeOf_9 rfl (lv_at hl 2 rfl) ?_
  refine lv_ior hx hb dX3_codeOf_10 ?_
  exact cI_ret F hP hD hS hK () rfl [] rfl rfl dX3_codeOf_11 (by decide) (by decide)
theorem yy_X3_codeOf : cY yX3_codeOf cX3_codeOf 3 (some .int) 3 := ⟨wdK_X3_codeOf, wdZ_RX3, by decide +kernel⟩
theorem dX3_codeAt_0 : decode cX3_codeAt 0 = .ok (.aload_n 0, 1) := by decide +kernel
theorem dX3_codeAt_1 : decode cX3_codeAt 1 = .ok (.getfield 9, 3) := by decide +kernel
theorem dX3_codeAt_4 : decode cX3_codeAt 4 = .ok (.iload_n 1, 1) := by decide +kernel
theorem dX3_codeAt_5 : decode cX3_codeAt 5 = .ok (.iaload, 1) := by decide +kernel
theorem dX3_codeAt_6 : decode cX3_codeAt 6 = .ok (.aload_n 0, 1) := by decide +kernel
theorem dX3_codeAt_7 : decode cX3_codeAt 7 = .ok (.getfield 15, 3) := by decide +kernel
theorem dX3_codeAt_10 : decode cX3_codeAt 10 = .ok (.iload_n 1, 1) := by decide +kernel
theorem dX3_codeAt_11 : decode cX3_codeAt 11 = .ok (.iaload, 1) := by decide +kernel
theorem dX3_codeAt_12 : decode cX3_codeAt 12 = .ok (.aload_n 0, 1) := by decide +kernel
theorem dX3_codeAt_13 : decode cX3_codeAt 13 = .ok (.getfield 18, 3) := by decide +kernel
theorem dX3_codeAt_16 : decode cX3_codeAt 16 = .ok (.iload_n 1, 1) := by decide +kernel
theorem dX3_codeAt_17 : decode cX3_codeAt 17 = .ok (.iaload, 1) := by decide +kernel
theorem dX3_codeAt_18 : decode cX3_codeAt 18 = .ok (.invokestatic 44, 3) := by decide +kernel
theorem dX3_codeAt_21 : decode cX3_codeAt 21 = .ok (.ireturn, 1) := by decide +kernel
abbrev rm_c_X3_codeAt : Room := { frames := 1, cells := 0, slots := 0, locals := 22 }
set_option maxHeartbeats 4000000 in
set_option maxRecDepth 100000 in
theorem c_X3_codeAt (l : Launch) (E : cE) (h0 : Nat) (a1 : Nat) (a2 : Nat) (a3 : Nat) (a4 : Nat) (a5 : Nat) (a6 : Nat) (a7 : Nat) (a8 : Nat) (N : Nat) (ve : Int32) (cd : Nat → Nat) (fx : Nat → Int32) (fy : Nat → Int32) (ff : Nat → Int32) (d : Nat) (hf : flo cd N fx fy ff) (hN : N ≤ 64) (hd : d < N) : cM l E yX3_codeAt cX3_codeAt 2 (some .int) rm_c_X3_codeAt [.ref h0, .int (nI d)] [(h0, ob 3 [.ref a1, .ref a2, .ref a3, .ref a4, .ref a5, .ref a6, .ref a7, .ref a8, .int (nI N), .int ve]), (a1, aI E 64 fx), (a2, aI E 64 fy), (a3, aI E 64 ff)] (qI E (fun (r : Int32) (_u : Unit) => r = nI (cd d)) (fun _ => [(h0, ob 3 [.ref a1, .ref a2, .ref a3, .ref a4, .ref a5, .ref a6, .ref a7, .ref a8, .int (nI N), .int ve]), (a1, aI E 64 fx), (a2, aI E 64 fy), (a3, aI E 64 ff)])) := by
  refine cM_of (by decide) (Nat.le_of_ble_eq_true rfl) ?_
  intro p e s m below meth c ls A F hA hS hP hD hK hZ hl
  obtain ⟨hx, hb, hr, hml, hown, hts, hlk, hin⟩ := id F
  have hown : s.vm.findClass RX3 = some m.cls := hown
  have hl : lv_has ls 2 [(0, .ref h0), (1, .int (nI d))] := hl
  refine lv_aload_n hx hb dX3_codeAt_0 rfl (lv_at hl 0 rfl) ?_
  refine va_get (D := E.1) (ci := 3) (v := .ref a1) (C := RX3) (T := TX3) (N := 10) hx hb hts iX3 hown hK hP 0 rfl rfl 0 (by decide) (hts _ wdF_RX3_9) (fun _ h9 => h9) rfl dX3_codeAt_1 ?_
  refine lv_iload_n hx hb dX3_codeAt_4 rfl (lv_at hl 1 rfl) ?_
  refine va_iald hx hb hK hP 1 1 rfl rfl (vp_in_nI (by omega) (by decide)) dX3_codeAt_5 ?_
  rw [nI_clamp (n := d) (by omega)]
  refine lv_aload_n hx hb dX3_codeAt_6 rfl (lv_at hl 0 rfl) ?_
  refine va_get (D := E.1) (ci := 3) (v := .ref a2) (C := RX3) (T := TX3) (N := 10) hx hb hts iX3 hown hK hP 0 rfl rfl 1 (by decide) (hts _ wdF_RX3_15) (fun _ h9 => h9) rfl dX3_codeAt_7 ?_
  refine lv_iload_n hx hb dX3_codeAt_10 rfl (lv_at hl 1 rfl) ?_
  refine va_iald hx hb hK hP 2 1 rfl rfl (vp_in_nI (by omega) (by decide)) dX3_codeAt_11 ?_
  rw [nI_clamp (n := d) (by omega)]
  refine lv_aload_n hx hb dX3_codeAt_12 rfl (lv_at hl 0 rfl) ?_
  refine va_get (D := E.1) (ci := 3) (v := .ref a3) (C := RX3) (T := TX3) (N := 10) hx hb hts iX3 hown hK hP 0 rfl rfl 2 (by decide) (hts _ wdF_RX3_18) (fun _ h9 => h9) rfl dX3_codeAt_13 ?_
  refine lv_iload_n hx hb dX3_codeAt_16 rfl (lv_at hl 1 rfl) ?_
  refine va_iald hx hb hK hP 3 1 rfl rfl (vp_in_nI (by omega) (by decide)) dX3_codeAt_17 ?_
  rw [nI_clamp (n := d) (by omega)]
  refine cI_go (wr := [(h0, ob 3 [.ref a1, .ref a2, .ref a3, .ref a4, .ref a5, .ref a6, .ref a7, .ref a8, .int (nI N), .int ve]), (a1, aI E 64 fx), (a2, aI E 64 fy), (a3, aI E 64 ff)]) (cM_runS (As := [.int (fx d), .int (fy d), .int (ff d)]) (rest := []) F (c_X3_codeOf l E (fx d) (fy d) (ff d)) yy_X3_codeOf wdT_X3_codeOf wdM_RX3_44 hP hD hS hK hZ hA [] rfl rfl rfl hl.1 rfl (Nat.le_of_ble_eq_true rfl) dX3_codeAt_18 ⟨by decide, by decide⟩ ⟨by decide, by decide⟩) hP hD hS hA [] [0, 1, 2, 3] rfl rfl rfl (by decide) (fun r_3 u_2 H locs hw_1 hP hD hS => ?_)
  try dsimp only at hw_1
  have hP : va_P E.1 vwCl [(h0, ob 3 [.ref a1, .ref a2, .ref a3, .ref a4, .ref a5, .ref a6, .ref a7, .ref a8, .int (nI N), .int ve]), (a1, aI E 64 fx), (a2, aI E 64 fy), (a3, aI E 64 ff)] H := hP
  have hD : va_D A [(h0, ob 3 [.ref a1, .ref a2, .ref a3, .ref a4, .ref a5, .ref a6, .ref a7, .ref a8, .int (nI N), .int ve]), (a1, aI E 64 fx), (a2, aI E 64 fy), (a3, aI E 64 ff)] := hD
  exact cI_ret F hP hD hS hK () (hw_1.trans (hf.code hd)) [0, 1, 2, 3] rfl rfl dX3_codeAt_21 (by decide) (by decide)
theorem yy_X3_codeAt : cY yX3_codeAt cX3_codeAt 2 (some .int) 1 := ⟨wdK_X3_codeAt, wdZ_RX3, by decide +kernel⟩
theorem yi_X3_codeAt : cYi yX3_codeAt := ⟨wdN_X3_codeAt, wdS_X3_codeAt⟩
theorem dX3_sort_0 : decode cX3_sort 0 = .ok (.iconst 0, 1) := by decide +kernel
theorem dX3_sort_1 : decode cX3_sort 1 = .ok (.istore_n 1, 1) := by decide +kernel
theorem dX3_sort_2 : decode cX3_sort 2 = .ok (.iload_n 1, 1) := by decide +kernel
theorem dX3_sort_3 : decode cX3_sort 3 = .ok (.aload_n 0, 1) := by decide +kernel
theorem dX3_sort_4 : decode cX3_sort 4 = .ok (.getfield 61, 3) := by decide +kernel
theorem dX3_sort_7 : decode cX3_sort 7 = .ok (.if_icmp .ge 68, 3) := by decide +kernel
theorem dX3_sort_10 : decode cX3_sort 10 = .ok (.aload_n 0, 1) := by decide +kernel
theorem dX3_sort_11 : decode cX3_sort 11 = .ok (.iload_n 1, 1) := by decide +kernel
theorem dX3_sort_12 : decode cX3_sort 12 = .ok (.invokevirtual 65, 3) := by decide +kernel
theorem dX3_sort_15 : decode cX3_sort 15 = .ok (.iconst 2, 1) := by decide +kernel
theorem dX3_sort_16 : decode cX3_sort 16 = .ok (.ishr, 1) := by decide +kernel
theorem dX3_sort_17 : decode cX3_sort 17 = .ok (.istore_n 2, 1) := by decide +kernel
theorem dX3_sort_18 : decode cX3_sort 18 = .ok (.iload_n 1, 1) := by decide +kernel
theorem dX3_sort_19 : decode cX3_sort 19 = .ok (.istore_n 3, 1) := by decide +kernel
theorem dX3_sort_20 : decode cX3_sort 20 = .ok (.iload_n 3, 1) := by decide +kernel
theorem dX3_sort_21 : decode cX3_sort 21 = .ok (.ifCond .le 41, 3) := by decide +kernel
theorem dX3_sort_24 : decode cX3_sort 24 = .ok (.aload_n 0, 1) := by decide +kernel
theorem dX3_sort_25 : decode cX3_sort 25 = .ok (.aload_n 0, 1) := by decide +kernel
theorem dX3_sort_26 : decode cX3_sort 26 = .ok (.getfield 27, 3) := by decide +kernel
theorem dX3_sort_29 : decode cX3_sort 29 = .ok (.iload_n 3, 1) := by decide +kernel
theorem dX3_sort_30 : decode cX3_sort 30 = .ok (.iconst 1, 1) := by decide +kernel
theorem dX3_sort_31 : decode cX3_sort 31 = .ok (.isub, 1) := by decide +kernel
theorem dX3_sort_32 : decode cX3_sort 32 = .ok (.iaload, 1) := by decide +kernel
theorem dX3_sort_33 : decode cX3_sort 33 = .ok (.invokevirtual 65, 3) := by decide +kernel
theorem dX3_sort_36 : decode cX3_sort 36 = .ok (.iconst 2, 1) := by decide +kernel
theorem dX3_sort_37 : decode cX3_sort 37 = .ok (.ishr, 1) := by decide +kernel
theorem dX3_sort_38 : decode cX3_sort 38 = .ok (.iload_n 2, 1) := by decide +kernel
theorem dX3_sort_39 : decode cX3_sort 39 = .ok (.if_icmp .le 23, 3) := by decide +kernel
theorem dX3_sort_42 : decode cX3_sort 42 = .ok (.aload_n 0, 1) := by decide +kernel
theorem dX3_sort_43 : decode cX3_sort 43 = .ok (.getfield 27, 3) := by decide +kernel
theorem dX3_sort_46 : decode cX3_sort 46 = .ok (.iload_n 3, 1) := by decide +kernel
theorem dX3_sort_47 : decode cX3_sort 47 = .ok (.aload_n 0, 1) := by decide +kernel
theorem dX3_sort_48 : decode cX3_sort 48 = .ok (.getfield 27, 3) := by decide +kernel
theorem dX3_sort_51 : decode cX3_sort 51 = .ok (.iload_n 3, 1) := by decide +kernel
theorem dX3_sort_52 : decode cX3_sort 52 = .ok (.iconst 1, 1) := by decide +kernel
theorem dX3_sort_53 : decode cX3_sort 53 = .ok (.isub, 1) := by decide +kernel
theorem dX3_sort_54 : decode cX3_sort 54 = .ok (.iaload, 1) := by decide +kernel
theorem dX3_sort_55 : decode cX3_sort 55 = .ok (.iastore, 1) := by decide +kernel
theorem dX3_sort_56 : decode cX3_sort 56 = .ok (.iinc 3 (-1), 3) := by decide +kernel
theorem dX3_sort_59 : decode cX3_sort 59 = .ok (.goto (-39), 3) := by decide +kernel
theorem dX3_sort_62 : decode cX3_sort 62 = .ok (.aload_n 0, 1) := by decide +kernel
theorem dX3_sort_63 : decode cX3_sort 63 = .ok (.getfield 27, 3) := by decide +kernel
theorem dX3_sort_66 : decode cX3_sort 66 = .ok (.iload_n 3, 1) := by decide +kernel
theorem dX3_sort_67 : decode cX3_sort 67 = .ok (.iload_n 1, 1) := by decide +kernel
theorem dX3_sort_68 : decode cX3_sort 68 = .ok (.iastore, 1) := by decide +kernel
theorem dX3_sort_69 : decode cX3_sort 69 = .ok (.iinc 1 1, 3) := by decide +kernel
theorem dX3_sort_72 : decode cX3_sort 72 = .ok (.goto (-70), 3) := by decide +kernel
theorem dX3_sort_75 : decode cX3_sort 75 = .ok (.return_, 1) := by decide +kernel
abbrev rm_c_X3_sort : Room := { frames := 2, cells := 0, slots := 0, locals := 43 }
set_option maxHeartbeats 4000000 in
set_option maxRecDepth 100000 in
theorem c_X3_sort (l : Launch) (E : cE) (h0 : Nat) (a1 : Nat) (a2 : Nat) (a3 : Nat) (a4 : Nat) (a5 : Nat) (a6 : Nat) (a7 : Nat) (a8 : Nat) (N : Nat) (ve : Int32) (cd : Nat → Nat) (fx : Nat → Int32) (fy : Nat → Int32) (ff : Nat → Int32) (o : Nat → Nat) (hf : flo cd N fx fy ff) (hN : N ≤ 64) : cM l E yX3_sort cX3_sort 4 none rm_c_X3_sort [.ref h0] [(h0, ob 3 [.ref a1, .ref a2, .ref a3, .ref a4, .ref a5, .ref a6, .ref a7, .ref a8, .int (nI N), .int ve]), (a1, aI E 64 fx), (a2, aI E 64 fy), (a3, aI E 64 ff), (a6, aI E 64 (fun j => nI (o j)))] (qV E (fun (_u : Unit) => True) (fun _ => [(h0, ob 3 [.ref a1, .ref a2, .ref a3, .ref a4, .ref a5, .ref a6, .ref a7, .ref a8, .int (nI N), .int ve]), (a1, aI E 64 fx), (a2, aI E 64 fy), (a3, aI E 64 ff), (a6, aI E 64 (fun j => nI (srtO (cdLt cd) o N j)))])) := by
  refine cM_of (by decide) (Nat.le_of_ble_eq_true rfl) ?_
  intro p e s m below meth c ls A F hA hS hP hD hK hZ hl
  obtain ⟨hx, hb, hr, hml, hown, hts, hlk, hin⟩ := id F
  have hown : s.vm.findClass RX3 = some m.cls := hown
  have hl : lv_has ls 4 [(0, .ref h0)] := hl
  refine lv_iconst (v := nI 0) hx hb dX3_sort_0 (by decide) ?_
  refine lv_istore_n (lv' := [(1, .int (nI 0)), (0, .ref h0)]) hx hb dX3_sort_1 rfl hl (by decide) rfl (fun ls hl => ?_)
  have lo : ∀ (n_lo : Nat) (i : Nat) (hn : N + 1 ≤ i + n_lo) (hi : i ≤ N) (H : Heap) (locs : List Loc) (ls : Array Slot), va_P E.1 vwCl [(h0, ob 3 [.ref a1, .ref a2, .ref a3, .ref a4, .ref a5, .ref a6, .ref a7, .ref a8, .int (nI N), .int ve]), (a1, aI E 64 fx), (a2, aI E 64 fy), (a3, aI E 64 ff), (a6, aI E 64 (fun j => nI (srtO (cdLt cd) o i j)))] H → va_D A [(h0, ob 3 [.ref a1, .ref a2, .ref a3, .ref a4, .ref a5, .ref a6, .ref a7, .ref a8, .int (nI N), .int ve]), (a1, aI E 64 fx), (a2, aI E 64 fy), (a3, aI E 64 ff), (a6, aI E 64 (fun j => nI (srtO (cdLt cd) o i j)))] → va_S A s.heap H locs → lv_has ls 4 [(0, .ref h0), (1, .int (nI i))] → W p l e rm_c_X3_sort s m ([.ref h0] : List Value).toArray below meth c H locs 0 0 (MQ below ((qV E (fun (_u : Unit) => True) (fun _ => [(h0, ob 3 [.ref a1, .ref a2, .ref a3, .ref a4, .ref a5, .ref a6, .ref a7, .ref a8, .int (nI N), .int ve]), (a1, aI E 64 fx), (a2, aI E 64 fy), (a3, aI E 64 ff), (a6, aI E 64 (fun j => nI (srtO (cdLt cd) o N j)))])) A) ([.ref h0] : List Value).toArray s (rm_c_X3_sort).cells (rm_c_X3_sort).slots A) (F0 m 2 ls []) := by
    intro n_lo
    induction n_lo with
    | zero =>
      intro i hn hi
      exfalso; omega
    | succ n_lo ih_lo =>
      intro i hn hi H locs ls hP hD hS hl
      refine lv_iload_n hx hb dX3_sort_2 rfl (lv_at hl 1 rfl) ?_
      refine lv_aload_n hx hb dX3_sort_3 rfl (lv_at hl 0 rfl) ?_
      refine va_get (D := E.1) (ci := 3) (v := .int (nI N)) (C := RX3) (T := TX3) (N := 10) hx hb hts iX3 hown hK hP 0 rfl rfl 8 (by decide) (hts _ wdF_RX3_61) (fun _ h9 => h9) rfl dX3_sort_4 ?_
      refine lv_icmp_ge (tgt := 75) hx hb dX3_sort_7 (by decide) (fun c1 => ?_) (fun c1 => ?_)
      · have c2 : N ≤ i := (nI_leI (by omega) (by omega)).mp c1
        obtain rfl : i = N := by omega
        exact cV_ret F hP hD hS hK () trivial [0, 1, 2, 3, 4] rfl rfl dX3_sort_75 (by decide) (by decide)
      · have c2 : i < N := Nat.lt_of_not_le (fun h => c1 (nI_le h (by omega)))
        refine lv_aload_n hx hb dX3_sort_10 rfl (lv_at hl 0 rfl) ?_
        refine lv_iload_n hx hb dX3_sort_11 rfl (lv_at hl 1 rfl) ?_
        refine cI_go (wr := [(a6, aI E 64 (fun j => nI (srtO (cdLt cd) o i j)))]) (cM_runV (As := [.int (nI i)]) (rest := []) F (c_X3_codeAt l E h0 a1 a2 a3 a4 a5 a6 a7 a8 N ve cd fx fy ff i hf hN c2) yy_X3_codeAt yi_X3_codeAt wdM_RX3_65 hP hD hS hK hZ hA [0, 1, 2, 3] rfl rfl 0 3 rfl rfl rfl hl.1 rfl (Nat.le_of_ble_eq_true rfl) dX3_sort_12 ⟨by decide, by decide⟩ ⟨by decide, by decide⟩) hP hD hS hA [0, 1, 2, 3] [4] rfl rfl rfl (by decide) (fun r_6 u_5 H locs hw_4 hP hD hS => ?_)
        try dsimp only at hw_4
        have hP : va_P E.1 vwCl [(a6, aI E 64 (fun j => nI (srtO (cdLt cd) o i j))), (h0, ob 3 [.ref a1, .ref a2, .ref a3, .ref a4, .ref a5, .ref a6, .ref a7, .ref a8, .int (nI N), .int ve]), (a1, aI E 64 fx), (a2, aI E 64 fy), (a3, aI E 64 ff)] H := hP
        have hD : va_D A [(a6, aI E 64 (fun j => nI (srtO (cdLt cd) o i j))), (h0, ob 3 [.ref a1, .ref a2, .ref a3, .ref a4, .ref a5, .ref a6, .ref a7, .ref a8, .int (nI N), .int ve]), (a1, aI E 64 fx), (a2, aI E 64 fy), (a3, aI E 64 ff)] := hD
        subst hw_4
        have hci := (hf i c2).1
        refine lv_iconst (v := nI 2) hx hb dX3_sort_15 (by decide) ?_
        refine lv_ishr hx hb dX3_sort_16 ?_
        rw [show ((nI (cd i)) >>> ((nI 2) &&& 31) : Int32) = nI (cd i / 4) from pk_shrN (by omega) (nI 2 &&& 31) 2 (by decide)]
        refine lv_istore_n (lv' := [(2, .int (nI (cd i / 4))), (0, .ref h0), (1, .int (nI i))]) hx hb dX3_sort_17 rfl hl (by decide) rfl (fun ls hl => ?_)
        refine lv_iload_n hx hb dX3_sort_18 rfl (lv_at hl 2 rfl) ?_
        refine lv_istore_n (lv' := [(3, .int (nI i)), (2, .int (nI (cd i / 4))), (0, .ref h0), (1, .int (nI i))]) hx hb dX3_sort_19 rfl hl (by decide) rfl (fun ls hl => ?_)
        have li : ∀ (n_li : Nat) (k : Nat) (o2 : Nat → Nat) (hn2 : k + 1 ≤ n_li) (hk : k ≤ i) (hE : insO (cdLt cd) i k o2 = srtO (cdLt cd) o (i + 1)) (hv : ∀ j, j < k → o2 j < N) (H : Heap) (locs : List Loc) (ls : Array Slot), va_P E.1 vwCl [(a6, aI E 64 (fun j => nI (o2 j))), (h0, ob 3 [.ref a1, .ref a2, .ref a3, .ref a4, .ref a5, .ref a6, .ref a7, .ref a8, .int (nI N), .int ve]), (a1, aI E 64 fx), (a2, aI E 64 fy), (a3, aI E 64 ff)] H → va_D A [(a6, aI E 64 (fun j => nI (o2 j))), (h0, ob 3 [.ref a1, .ref a2, .ref a3, .ref a4, .ref a5, .ref a6, .ref a7, .ref a8, .int (nI N), .int ve]), (a1, aI E 64 fx), (a2, aI E 64 fy), (a3, aI E 64 ff)] → va_S A s.heap H locs → lv_has ls 4 [(0, .ref h0), (1, .int (nI i)), (2, .int (nI (cd i / 4))), (3, .int (nI k))] → W p l e rm_c_X3_sort s m ([.ref h0] : List Value).toArray below meth c H locs 0 0 (MQ below ((qV E (fun (_u : Unit) => True) (fun _ => [(h0, ob 3 [.ref a1, .ref a2, .ref a3, .ref a4, .ref a5, .ref a6, .ref a7, .ref a8, .int (nI N), .int ve]), (a1, aI E 64 fx), (a2, aI E 64 fy), (a3, aI E 64 ff), (a6, aI E 64 (fun j => nI (srtO (cdLt cd) o N j)))])) A) ([.ref h0] : List Value).toArray s (rm_c_X3_sort).cells (rm_c_X3_sort).slots A) (F0 m 20 ls []) := by
          intro n_li
          induction n_li with
          | zero =>
            intro k o2 hn2 hk hE hv
            exfalso; omega
          | succ n_li ih_li =>
            intro k o2 hn2 hk hE hv H locs ls hP hD hS hl
            refine lv_iload_n hx hb dX3_sort_20 rfl (lv_at hl 3 rfl) ?_
            refine lv_if_le (tgt := 62) hx hb dX3_sort_21 (by decide) (fun c3 => ?_) (fun c3 => ?_)
            · obtain rfl : k = 0 := by
                rcases Nat.eq_zero_or_pos k with h | h
                · exact h
                · exact absurd c3 (nI_nle h (by omega))
              refine lv_aload_n hx hb dX3_sort_62 rfl (lv_at hl 0 rfl) ?_
              refine va_get (D := E.1) (ci := 3) (v := .ref a6) (C := RX3) (T := TX3) (N := 10) hx hb hts iX3 hown hK hP 1 rfl rfl 5 (by decide) (hts _ wdF_RX3_27) (fun _ h9 => h9) rfl dX3_sort_63 ?_
              refine lv_iload_n hx hb dX3_sort_66 rfl (lv_at hl 3 rfl) ?_
              refine lv_iload_n hx hb dX3_sort_67 rfl (lv_at hl 1 rfl) ?_
              refine va_iast hx hb hK hP hD hS 0 1 rfl rfl (vp_in_nI (by decide) (by decide)) dX3_sort_68 (fun H locs hP hD hS => ?_)
              have hP : va_P E.1 vwCl [(a6, aI E 64 (upd (fun j => nI (o2 j)) (nI 0).toNatClampNeg (nI i))), (h0, ob 3 [.ref a1, .ref a2, .ref a3, .ref a4, .ref a5, .ref a6, .ref a7, .ref a8, .int (nI N), .int ve]), (a1, aI E 64 fx), (a2, aI E 64 fy), (a3, aI E 64 ff)] H := hP
              have hD : va_D A [(a6, aI E 64 (upd (fun j => nI (o2 j)) (nI 0).toNatClampNeg (nI i))), (h0, ob 3 [.ref a1, .ref a2, .ref a3, .ref a4, .ref a5, .ref a6, .ref a7, .ref a8, .int (nI N), .int ve]), (a1, aI E 64 fx), (a2, aI E 64 fy), (a3, aI E 64 ff)] := hD
              rw [nI_clamp (n := 0) (by decide)] at hP hD
              rw [updN_nI] at hP hD
              rw [show updN o2 0 i = srtO (cdLt cd) o (i + 1) from hE] at hP hD
              refine lv_iinc (v := nI (i + 1)) (lv' := [(1, .int (nI (i + 1))), (0, .ref h0), (2, .int (nI (cd i / 4))), (3, .int (nI 0))]) hx hb dX3_sort_69 hl (k := 1) rfl (nI_1 i) (by decide) rfl (fun ls hl => ?_)
              refine lv_goto (tgt := 2) hx hb dX3_sort_72 (by decide) ?_
              exact ih_lo (i + 1) (by omega) (by omega) _ _ _ (hP.sub [1, 2, 3, 4, 0] rfl) (hD.sub [1, 2, 3, 4, 0] rfl rfl) hS (lv_sub hl [1, 0] rfl)
            · obtain ⟨k9, rfl⟩ : ∃ k9, k = k9 + 1 := ⟨k - 1, by
                rcases Nat.eq_zero_or_pos k with h | h
                · exact absurd (by rw [h]; decide) c3
                · omega⟩
              refine lv_aload_n hx hb dX3_sort_24 rfl (lv_at hl 0 rfl) ?_
              refine lv_aload_n hx hb dX3_sort_25 rfl (lv_at hl 0 rfl) ?_
              refine va_get (D := E.1) (ci := 3) (v := .ref a6) (C := RX3) (T := TX3) (N := 10) hx hb hts iX3 hown hK hP 1 rfl rfl 5 (by decide) (hts _ wdF_RX3_27) (fun _ h9 => h9) rfl dX3_sort_26 ?_
              refine lv_iload_n hx hb dX3_sort_29 rfl (lv_at hl 3 rfl) ?_
              refine lv_iconst (v := nI 1) hx hb dX3_sort_30 (by decide) ?_
              refine lv_isub hx hb dX3_sort_31 ?_
              rw [show ((nI (k9 + 1)) - (nI 1) : Int32) = nI k9 from nI_pred k9]
              refine va_iald hx hb hK hP 0 1 rfl rfl (vp_in_nI (by omega) (by decide)) dX3_sort_32 ?_
              rw [nI_clamp (n := k9) (by omega)]
              refine cI_go (wr := [(a6, aI E 64 (fun j => nI (o2 j)))]) (cM_runV (As := [.int (nI (o2 k9))]) (rest := []) F (c_X3_codeAt l E h0 a1 a2 a3 a4 a5 a6 a7 a8 N ve cd fx fy ff (o2 k9) hf hN (hv k9 (by omega))) yy_X3_codeAt yi_X3_codeAt wdM_RX3_65 hP hD hS hK hZ hA [1, 2, 3, 4] rfl rfl 1 3 rfl rfl rfl hl.1 rfl (Nat.le_of_ble_eq_true rfl) dX3_sort_33 ⟨by decide, by decide⟩ ⟨by decide, by decide⟩) hP hD hS hA [1, 2, 3, 4] [0] rfl rfl rfl (by decide) (fun r_9 u_8 H locs hw_7 hP hD hS => ?_)
              try dsimp only at hw_7
              have hP : va_P E.1 vwCl [(a6, aI E 64 (fun j => nI (o2 j))), (h0, ob 3 [.ref a1, .ref a2, .ref a3, .ref a4, .ref a5, .ref a6, .ref a7, .ref a8, .int (nI N), .int ve]), (a1, aI E 64 fx), (a2, aI E 64 fy), (a3, aI E 64 ff)] H := hP
              have hD : va_D A [(a6, aI E 64 (fun j => nI (o2 j))), (h0, ob 3 [.ref a1, .ref a2, .ref a3, .ref a4, .ref a5, .ref a6, .ref a7, .ref a8, .int (nI N), .int ve]), (a1, aI E 64 fx), (a2, aI E 64 fy), (a3, aI E 64 ff)] := hD
              subst hw_7
              have hco := (hf (o2 k9) (hv k9 (by omega))).1
              refine lv_iconst (v := nI 2) hx hb dX3_sort_36 (by decide) ?_
              refine lv_ishr hx hb dX3_sort_37 ?_
              rw [show ((nI (cd (o2 k9))) >>> ((nI 2) &&& 31) : Int32) = nI (cd (o2 k9) / 4) from pk_shrN (by omega) (nI 2 &&& 31) 2 (by decide)]
              refine lv_iload_n hx hb dX3_sort_38 rfl (lv_at hl 2 rfl) ?_
              refine lv_icmp_le (tgt := 62) hx hb dX3_sort_39 (by decide) (fun c4 => ?_) (fun c4 => ?_)
              · have c5 : cd (o2 k9) / 4 ≤ cd i / 4 := (nI_leI (by omega) (by omega)).mp c4
                have c6 : cdLt cd i (o2 k9) = false := by unfold cdLt; exact decide_eq_false (by omega)
                refine lv_aload_n hx hb dX3_sort_62 rfl (lv_at hl 0 rfl) ?_
                refine va_get (D := E.1) (ci := 3) (v := .ref a6) (C := RX3) (T := TX3) (N := 10) hx hb hts iX3 hown hK hP 1 rfl rfl 5 (by decide) (hts _ wdF_RX3_27) (fun _ h9 => h9) rfl dX3_sort_63 ?_
                refine lv_iload_n hx hb dX3_sort_66 rfl (lv_at hl 3 rfl) ?_
                refine lv_iload_n hx hb dX3_sort_67 rfl (lv_at hl 1 rfl) ?_
                refine va_iast hx hb hK hP hD hS 0 1 rfl rfl (vp_in_nI (by omega) (by decide)) dX3_sort_68 (fun H locs hP hD hS => ?_)
                have hP : va_P E.1 vwCl [(a6, aI E 64 (upd (fun j => nI (o2 j)) (nI (k9 + 1)).toNatClampNeg (nI i))), (h0, ob 3 [.ref a1, .ref a2, .ref a3, .ref a4, .ref a5, .ref a6, .ref a7, .ref a8, .int (nI N), .int ve]), (a1, aI E 64 fx), (a2, aI E 64 fy), (a3, aI E 64 ff)] H := hP
                have hD : va_D A [(a6, aI E 64 (upd (fun j => nI (o2 j)) (nI (k9 + 1)).toNatClampNeg (nI i))), (h0, ob 3 [.ref a1, .ref a2, .ref a3, .ref a4, .ref a5, .ref a6, .ref a7, .ref a8, .int (nI N), .int ve]), (a1, aI E 64 fx), (a2, aI E 64 fy), (a3, aI E 64 ff)] := hD
                rw [nI_clamp (n := (k9 + 1)) (by omega)] at hP hD
                rw [updN_nI] at hP hD
                rw [show updN o2 (k9 + 1) i = srtO (cdLt cd) o (i + 1) from (by rw [← hE]; show _ = (if cdLt cd i (o2 k9) then _ else _); rw [c6]; rfl)] at hP hD
                refine lv_iinc (v := nI (i + 1)) (lv' := [(1, .int (nI (i + 1))), (0, .ref h0), (2, .int (nI (cd i / 4))), (3, .int (nI (k9 + 1)))]) hx hb dX3_sort_69 hl (k := 1) rfl (nI_1 i) (by decide) rfl (fun ls hl => ?_)
                refine lv_goto (tgt := 2) hx hb dX3_sort_72 (by decide) ?_
                exact ih_lo (i + 1) (by omega) (by omega) _ _ _ (hP.sub [1, 2, 3, 4, 0] rfl) (hD.sub [1, 2, 3, 4, 0] rfl rfl) hS (lv_sub hl [1, 0] rfl)
              · have c5 : cd i / 4 < cd (o2 k9) / 4 := Nat.lt_of_not_le (fun h => c4 (nI_le h (by omega)))
                have c6 : cdLt cd i (o2 k9) = true := by unfold cdLt; exact decide_eq_true c5
                refine lv_aload_n hx hb dX3_sort_42 rfl (lv_at hl 0 rfl) ?_
                refine va_get (D := E.1) (ci := 3) (v := .ref a6) (C := RX3) (T := TX3) (N := 10) hx hb hts iX3 hown hK hP 1 rfl rfl 5 (by decide) (hts _ wdF_RX3_27) (fun _ h9 => h9) rfl dX3_sort_43 ?_
                refine lv_iload_n hx hb dX3_sort_46 rfl (lv_at hl 3 rfl) ?_
                refine lv_aload_n hx hb dX3_sort_47 rfl (lv_at hl 0 rfl) ?_
                refine va_get (D := E.1) (ci := 3) (v := .ref a6) (C := RX3) (T := TX3) (N := 10) hx hb hts iX3 hown hK hP 1 rfl rfl 5 (by decide) (hts _ wdF_RX3_27) (fun _ h9 => h9) rfl dX3_sort_48 ?_
                refine lv_iload_n hx hb dX3_sort_51 rfl (lv_at hl 3 rfl) ?_
                refine lv_iconst (v := nI 1) hx hb dX3_sort_52 (by decide) ?_
                refine lv_isub hx hb dX3_sort_53 ?_
                rw [show ((nI (k9 + 1)) - (nI 1) : Int32) = nI k9 from nI_pred k9]
                refine va_iald hx hb hK hP 0 1 rfl rfl (vp_in_nI (by omega) (by decide)) dX3_sort_54 ?_
                rw [nI_clamp (n := k9) (by omega)]
                refine va_iast hx hb hK hP hD hS 0 1 rfl rfl (vp_in_nI (by omega) (by decide)) dX3_sort_55 (fun H locs hP hD hS => ?_)
                have hP : va_P E.1 vwCl [(a6, aI E 64 (upd (fun j => nI (o2 j)) (nI (k9 + 1)).toNatClampNeg (nI (o2 k9)))), (h0, ob 3 [.ref a1, .ref a2, .ref a3, .ref a4, .ref a5, .ref a6, .ref a7, .ref a8, .int (nI N), .int ve]), (a1, aI E 64 fx), (a2, aI E 64 fy), (a3, aI E 64 ff)] H := hP
                have hD : va_D A [(a6, aI E 64 (upd (fun j => nI (o2 j)) (nI (k9 + 1)).toNatClampNeg (nI (o2 k9)))), (h0, ob 3 [.ref a1, .ref a2, .ref a3, .ref a4, .ref a5, .ref a6, .ref a7, .ref a8, .int (nI N), .int ve]), (a1, aI E 64 fx), (a2, aI E 64 fy), (a3, aI E 64 ff)] := hD
                rw [nI_clamp (n := (k9 + 1)) (by omega)] at hP hD
                rw [updN_nI] at hP hD
                refine lv_iinc (v := nI k9) (lv' := [(3, .int (nI k9)), (0, .ref h0), (1, .int (nI i)), (2, .int (nI (cd i / 4)))]) hx hb dX3_sort_56 hl (k := 3) rfl (pk_m1 k9) (by decide) rfl (fun ls hl => ?_)
                refine lv_goto (tgt := 20) hx hb dX3_sort_59 (by decide) ?_
                exact ih_li k9 (updN o2 (k9 + 1) (o2 k9)) (by omega) (by omega) (by rw [← hE]; show _ = (if cdLt cd i (o2 k9) then _ else _); rw [c6]; rfl) (fun j hj => by unfold updN; rw [if_neg (by omega)]; exact hv j (by omega)) _ _ _ hP hD hS (lv_sub hl [1, 2, 3, 0] rfl)
        exact li (i + 1) i (srtO (cdLt cd) o i) (Nat.le_refl _) (Nat.le_refl _) rfl (fun j hj => Nat.lt_trans (srtO_lt i j hj) c2) _ _ _ hP hD hS (lv_sub hl [2, 3, 1, 0] rfl)
  exact lo (N + 1) 0 (by omega) (by omega) _ _ _ hP hD hS (lv_sub hl [1, 0] rfl)
theorem yy_X3_sort : cY yX3_sort cX3_sort 4 none 0 := ⟨wdK_X3_sort, wdZ_RX3, by decide +kernel⟩
theorem yi_X3_sort : cYi yX3_sort := ⟨wdN_X3_sort, wdS_X3_sort⟩
theorem dX3_place_0 : decode cX3_place 0 = .ok (.iconst 0, 1) := by decide +kernel
theorem dX3_place_1 : decode cX3_place 1 = .ok (.istore_n 3, 1) := by decide +kernel
theorem dX3_place_2 : decode cX3_place 2 = .ok (.iload_n 3, 1) := by decide +kernel
theorem dX3_place_3 : decode cX3_place 3 = .ok (.aload_n 0, 1) := by decide +kernel
theorem dX3_place_4 : decode cX3_place 4 = .ok (.getfield 61, 3) := by decide +kernel
theorem dX3_place_7 : decode cX3_place 7 = .ok (.if_icmp .ge 22, 3) := by decide +kernel
theorem dX3_place_10 : decode cX3_place 10 = .ok (.aload_n 0, 1) := by decide +kernel
theorem dX3_place_11 : decode cX3_place 11 = .ok (.getfield 34, 3) := by decide +kernel
theorem dX3_place_14 : decode cX3_place 14 = .ok (.aload_n 0, 1) := by decide +kernel
theorem dX3_place_15 : decode cX3_place 15 = .ok (.iload_n 3, 1) := by decide +kernel
theorem dX3_place_16 : decode cX3_place 16 = .ok (.invokevirtual 65, 3) := by decide +kernel
theorem dX3_place_19 : decode cX3_place 19 = .ok (.iconst 2, 1) := by decide +kernel
theorem dX3_place_20 : decode cX3_place 20 = .ok (.ishr, 1) := by decide +kernel
theorem dX3_place_21 : decode cX3_place 21 = .ok (.iconst 0, 1) := by decide +kernel
theorem dX3_place_22 : decode cX3_place 22 = .ok (.bastore, 1) := by decide +kernel
theorem dX3_place_23 : decode cX3_place 23 = .ok (.iinc 3 1, 3) := by decide +kernel
theorem dX3_place_26 : decode cX3_place 26 = .ok (.goto (-24), 3) := by decide +kernel
theorem dX3_place_29 : decode cX3_place 29 = .ok (.aload_n 0, 1) := by decide +kernel
theorem dX3_place_30 : decode cX3_place 30 = .ok (.iload_n 2, 1) := by decide +kernel
theorem dX3_place_31 : decode cX3_place 31 = .ok (.aload_n 1, 1) := by decide +kernel
theorem dX3_place_32 : decode cX3_place 32 = .ok (.arraylength, 1) := by decide +kernel
theorem dX3_place_33 : decode cX3_place 33 = .ok (.bipush 64, 2) := by decide +kernel
theorem dX3_place_35 : decode cX3_place 35 = .ok (.invokestatic 48, 3) := by decide +kernel
theorem dX3_place_38 : decode cX3_place 38 = .ok (.invokestatic 48, 3) := by decide +kernel
theorem dX3_place_41 : decode cX3_place 41 = .ok (.putfield 61, 3) := by decide +kernel
theorem dX3_place_44 : decode cX3_place 44 = .ok (.aload_n 0, 1) := by decide +kernel
theorem dX3_place_45 : decode cX3_place 45 = .ok (.getfield 30, 3) := by decide +kernel
theorem dX3_place_48 : decode cX3_place 48 = .ok (.lconst 0, 1) := by decide +kernel
theorem dX3_place_49 : decode cX3_place 49 = .ok (.invokestatic 69, 3) := by decide +kernel
theorem dX3_place_52 : decode cX3_place 52 = .ok (.iconst 0, 1) := by decide +kernel
theorem dX3_place_53 : decode cX3_place 53 = .ok (.istore_n 3, 1) := by decide +kernel
theorem dX3_place_54 : decode cX3_place 54 = .ok (.iload_n 3, 1) := by decide +kernel
theorem dX3_place_55 : decode cX3_place 55 = .ok (.aload_n 0, 1) := by decide +kernel
theorem dX3_place_56 : decode cX3_place 56 = .ok (.getfield 61, 3) := by decide +kernel
theorem dX3_place_59 : decode cX3_place 59 = .ok (.if_icmp .ge 85, 3) := by decide +kernel
theorem dX3_place_62 : decode cX3_place 62 = .ok (.aload_n 1, 1) := by decide +kernel
theorem dX3_place_63 : decode cX3_place 63 = .ok (.iload_n 3, 1) := by decide +kernel
theorem dX3_place_64 : decode cX3_place 64 = .ok (.iaload, 1) := by decide +kernel
theorem dX3_place_65 : decode cX3_place 65 = .ok (.iconst 2, 1) := by decide +kernel
theorem dX3_place_66 : decode cX3_place 66 = .ok (.ishr, 1) := by decide +kernel
theorem dX3_place_67 : decode cX3_place 67 = .ok (.sipush 4095, 3) := by decide +kernel
theorem dX3_place_70 : decode cX3_place 70 = .ok (.iand, 1) := by decide +kernel
theorem dX3_place_71 : decode cX3_place 71 = .ok (.istore 4, 2) := by decide +kernel
theorem dX3_place_73 : decode cX3_place 73 = .ok (.aload_n 0, 1) := by decide +kernel
theorem dX3_place_74 : decode cX3_place 74 = .ok (.getfield 9, 3) := by decide +kernel
theorem dX3_place_77 : decode cX3_place 77 = .ok (.iload_n 3, 1) := by decide +kernel
theorem dX3_place_78 : decode cX3_place 78 = .ok (.iload 4, 2) := by decide +kernel
theorem dX3_place_80 : decode cX3_place 80 = .ok (.bipush 63, 2) := by decide +kernel
theorem dX3_place_82 : decode cX3_place 82 = .ok (.iand, 1) := by decide +kernel
theorem dX3_place_83 : decode cX3_place 83 = .ok (.iconst 2, 1) := by decide +kernel
theorem dX3_place_84 : decode cX3_place 84 = .ok (.ishl, 1) := by decide +kernel
theorem dX3_place_85 : decode cX3_place 85 = .ok (.iastore, 1) := by decide +kernel
theorem dX3_place_86 : decode cX3_place 86 = .ok (.aload_n 0, 1) := by decide +kernel
theorem dX3_place_87 : decode cX3_place 87 = .ok (.getfield 15, 3) := by decide +kernel
theorem dX3_place_90 : decode cX3_place 90 = .ok (.iload_n 3, 1) := by decide +kernel
theorem dX3_place_91 : decode cX3_place 91 = .ok (.iload 4, 2) := by decide +kernel
theorem dX3_place_93 : decode cX3_place 93 = .ok (.bipush 6, 2) := by decide +kernel
theorem dX3_place_95 : decode cX3_place 95 = .ok (.ishr, 1) := by decide +kernel
theorem dX3_place_96 : decode cX3_place 96 = .ok (.iconst 2, 1) := by decide +kernel
theorem dX3_place_97 : decode cX3_place 97 = .ok (.ishl, 1) := by decide +kernel
theorem dX3_place_98 : decode cX3_place 98 = .ok (.iastore, 1) := by decide +kernel
theorem dX3_place_99 : decode cX3_place 99 = .ok (.aload_n 0, 1) := by decide +kernel
theorem dX3_place_100 : decode cX3_place 100 = .ok (.getfield 18, 3) := by decide +kernel
theorem dX3_place_103 : decode cX3_place 103 = .ok (.iload_n 3, 1) := by decide +kernel
theorem dX3_place_104 : decode cX3_place 104 = .ok (.aload_n 1, 1) := by decide +kernel
theorem dX3_place_105 : decode cX3_place 105 = .ok (.iload_n 3, 1) := by decide +kernel
theorem dX3_place_106 : decode cX3_place 106 = .ok (.iaload, 1) := by decide +kernel
theorem dX3_place_107 : decode cX3_place 107 = .ok (.iconst 3, 1) := by decide +kernel
theorem dX3_place_108 : decode cX3_place 108 = .ok (.iand, 1) := by decide +kernel
theorem dX3_place_109 : decode cX3_place 109 = .ok (.iastore, 1) := by decide +kernel
theorem dX3_place_110 : decode cX3_place 110 = .ok (.aload_n 0, 1) := by decide +kernel
theorem dX3_place_111 : decode cX3_place 111 = .ok (.getfield 30, 3) := by decide +kernel
theorem dX3_place_114 : decode cX3_place 114 = .ok (.aload_n 0, 1) := by decide +kernel
theorem dX3_place_115 : decode cX3_place 115 = .ok (.getfield 18, 3) := by decide +kernel
theorem dX3_place_118 : decode cX3_place 118 = .ok (.iload_n 3, 1) := by decide +kernel
theorem dX3_place_119 : decode cX3_place 119 = .ok (.iaload, 1) := by decide +kernel
theorem dX3_place_120 : decode cX3_place 120 = .ok (.dup2, 1) := by decide +kernel
theorem dX3_place_121 : decode cX3_place 121 = .ok (.laload, 1) := by decide +kernel
theorem dX3_place_122 : decode cX3_place 122 = .ok (.lconst 1, 1) := by decide +kernel
theorem dX3_place_123 : decode cX3_place 123 = .ok (.iload_n 3, 1) := by decide +kernel
theorem dX3_place_124 : decode cX3_place 124 = .ok (.lshl, 1) := by decide +kernel
theorem dX3_place_125 : decode cX3_place 125 = .ok (.lor, 1) := by decide +kernel
theorem dX3_place_126 : decode cX3_place 126 = .ok (.lastore, 1) := by decide +kernel
theorem dX3_place_127 : decode cX3_place 127 = .ok (.aload_n 0, 1) := by decide +kernel
theorem dX3_place_128 : decode cX3_place 128 = .ok (.getfield 34, 3) := by decide +kernel
theorem dX3_place_131 : decode cX3_place 131 = .ok (.iload 4, 2) := by decide +kernel
theorem dX3_place_133 : decode cX3_place 133 = .ok (.iload_n 3, 1) := by decide +kernel
theorem dX3_place_134 : decode cX3_place 134 = .ok (.iconst 1, 1) := by decide +kernel
theorem dX3_place_135 : decode cX3_place 135 = .ok (.iadd, 1) := by decide +kernel
theorem dX3_place_136 : decode cX3_place 136 = .ok (.i2b, 1) := by decide +kernel
theorem dX3_place_137 : decode cX3_place 137 = .ok (.bastore, 1) := by decide +kernel
theorem dX3_place_138 : decode cX3_place 138 = .ok (.iinc 3 1, 3) := by decide +kernel
theorem dX3_place_141 : decode cX3_place 141 = .ok (.goto (-87), 3) := by decide +kernel
theorem dX3_place_144 : decode cX3_place 144 = .ok (.aload_n 0, 1) := by decide +kernel
theorem dX3_place_145 : decode cX3_place 145 = .ok (.invokevirtual 75, 3) := by decide +kernel
theorem dX3_place_148 : decode cX3_place 148 = .ok (.aload_n 0, 1) := by decide +kernel
theorem dX3_place_149 : decode cX3_place 149 = .ok (.dup, 1) := by decide +kernel
theorem dX3_place_150 : decode cX3_place 150 = .ok (.getfield 78, 3) := by decide +kernel
theorem dX3_place_153 : decode cX3_place 153 = .ok (.iconst 1, 1) := by decide +kernel
theorem dX3_place_154 : decode cX3_place 154 = .ok (.iadd, 1) := by decide +kernel
theorem dX3_place_155 : decode cX3_place 155 = .ok (.putfield 78, 3) := by decide +kernel
theorem dX3_place_158 : decode cX3_place 158 = .ok (.return_, 1) := by decide +kernel
abbrev rm_c_X3_place : Room := { frames := 3, cells := 0, slots := 0, locals := 66 }
set_option maxHeartbeats 4000000 in
set_option maxRecDepth 100000 in
theorem c_X3_place (l : Launch) (E : cE) (h0 : Nat) (a1 : Nat) (a2 : Nat) (a3 : Nat) (a4 : Nat) (a5 : Nat) (a6 : Nat) (a7 : Nat) (a8 : Nat) (N : Nat) (ve : Int32) (cd : Nat → Nat) (fx : Nat → Int32) (fy : Nat → Int32) (ff : Nat → Int32) (o : Nat → Nat) (hc : Nat) (cl : Nat) (fc : Nat → Int32) (n : Nat) (kd : Nat → Nat) (hf : flo cd N fx fy ff) (hN : N ≤ 64) (hkd : ∀ d, d < n → kd d < 16384 ∧ (fc d >>> ((nI 2) &&& 31)) &&& nI 4095 = nI (kd d / 4) ∧ fc d &&& nI 3 = nI (kd d % 4)) (hn64 : n ≤ 64) (hncl : n ≤ cl) (hcl : cl ≤ 64) : cM l E yX3_place cX3_place 5 none rm_c_X3_place [.ref h0, .ref hc, .int (nI n)] [(h0, ob 3 [.ref a1, .ref a2, .ref a3, .ref a4, .ref a5, .ref a6, .ref a7, .ref a8, .int (nI N), .int ve]), (a1, aI E 64 fx), (a2, aI E 64 fy), (a3, aI E 64 ff), (a6, aI E 64 (fun j => nI (o j))), (a7, aJ E 4 (faOf cd N)), (a8, aB E 4096 (seatOf cd N)), (hc, aI E cl fc)] (qV E (fun (u : (Nat → Int32) × (Nat → Int32) × (Nat → Int32) × Int32) => match u with | (gx, gy, gf, v2) => flo kd n gx gy gf ∧ v2 = ve + nI 1) (fun (u : (Nat → Int32) × (Nat → Int32) × (Nat → Int32) × Int32) => match u with | (gx, gy, gf, v2) => [(h0, ob 3 [.ref a1, .ref a2, .ref a3, .ref a4, .ref a5, .ref a6, .ref a7, .ref a8, .int (nI n), .int v2]), (a1, aI E 64 gx), (a2, aI E 64 gy), (a3, aI E 64 gf), (a6, aI E 64 (fun j => nI (srtO (cdLt kd) o n j))), (a7, aJ E 4 (faOf kd n)), (a8, aB E 4096 (seatOf kd n)), (hc, aI E cl fc)])) := by
  refine cM_of (by decide) (Nat.le_of_ble_eq_true rfl) ?_
  intro p e s m below meth c ls A F hA hS hP hD hK hZ hl
  obtain ⟨hx, hb, hr, hml, hown, hts, hlk, hin⟩ := id F
  have hown : s.vm.findClass RX3 = some m.cls := hown
  have hl : lv_has ls 5 [(0, .ref h0), (1, .ref hc), (2, .int (nI n))] := hl
  refine lv_iconst (v := nI 0) hx hb dX3_place_0 (by decide) ?_
  refine lv_istore_n (lv' := [(3, .int (nI 0)), (0, .ref h0), (1, .ref hc), (2, .int (nI n))]) hx hb dX3_place_1 rfl hl (by decide) rfl (fun ls hl => ?_)
  have la : ∀ (n_la : Nat) (i : Nat) (hn : N + 1 ≤ i + n_la) (hi : i ≤ N) (H : Heap) (locs : List Loc) (ls : Array Slot), va_P E.1 vwCl [(h0, ob 3 [.ref a1, .ref a2, .ref a3, .ref a4, .ref a5, .ref a6, .ref a7, .ref a8, .int (nI N), .int ve]), (a1, aI E 64 fx), (a2, aI E 64 fy), (a3, aI E 64 ff), (a6, aI E 64 (fun j => nI (o j))), (a7, aJ E 4 (faOf cd N)), (a8, aB E 4096 (clrS cd (seatOf cd N) i)), (hc, aI E cl fc)] H → va_D A [(h0, ob 3 [.ref a1, .ref a2, .ref a3, .ref a4, .ref a5, .ref a6, .ref a7, .ref a8, .int (nI N), .int ve]), (a1, aI E 64 fx), (a2, aI E 64 fy), (a3, aI E 64 ff), (a6, aI E 64 (fun j => nI (o j))), (a7, aJ E 4 (faOf cd N)), (a8, aB E 4096 (clrS cd (seatOf cd N) i)), (hc, aI E cl fc)] → va_S A s.heap H locs → lv_has ls 5 [(0, .ref h0), (1, .ref hc), (2, .int (nI n)), (3, .int (nI i))] → W p l e rm_c_X3_place s m ([.ref h0, .ref hc, .int (nI n)] : List Value).toArray below meth c H locs 0 0 (MQ below ((qV E (fun (u : (Nat → Int32) × (Nat → Int32) × (Nat → Int32) × Int32) => match u with | (gx, gy, gf, v2) => flo kd n gx gy gf ∧ v2 = ve + nI 1) (fun (u : (Nat → Int32) × (Nat → Int32) × (Nat → Int32) × Int32) => match u with | (gx, gy, gf, v2) => [(h0, ob 3 [.ref a1, .ref a2, .ref a3, .ref a4, .ref a5, .ref a6, .ref a7, .ref a8, .int (nI n), .int v2]), (a1, aI E 64 gx), (a2, aI E 64 gy), (a3, aI E 64 gf), (a6, aI E 64 (fun j => nI (srtO (cdLt kd) o n j))), (a7, aJ E 4 (faOf kd n)), (a8, aB E 4096 (seatOf kd n)), (hc, aI E cl fc)])) A) ([.ref h0, .ref hc, .int (nI n)] : List Value).toArray s (rm_c_X3_place).cells (rm_c_X3_place).slots A) (F0 m 2 ls []) := by
    intro n_la
    induction n_la with
    | zero =>
      intro i hn hi
      exfalso; omega
    | succ n_la ih_la =>
      intro i hn hi H locs ls hP hD hS hl
      refine lv_iload_n hx hb dX3_place_2 rfl (lv_at hl 3 rfl) ?_
      refine lv_aload_n hx hb dX3_place_3 rfl (lv_at hl 0 rfl) ?_
      refine va_get (D := E.1) (ci := 3) (v := .int (nI N)) (C := RX3) (T := TX3) (N := 10) hx hb hts iX3 hown hK hP 0 rfl rfl 8 (by decide) (hts _ wdF_RX3_61) (fun _ h9 => h9) rfl dX3_place_4 ?_
      refine lv_icmp_ge (tgt := 29) hx hb dX3_place_7 (by decide) (fun c1 => ?_) (fun c1 => ?_)
      · have c2 : N ≤ i := (nI_leI (by omega) (by omega)).mp c1
        obtain rfl : i = N := by omega
        rw [show clrS cd (seatOf cd i) i = seatOf kd 0 from funext (fun s => clrS_end)] at hP hD
        refine lv_aload_n hx hb dX3_place_29 rfl (lv_at hl 0 rfl) ?_
        refine lv_iload_n hx hb dX3_place_30 rfl (lv_at hl 2 rfl) ?_
        refine lv_aload_n hx hb dX3_place_31 rfl (lv_at hl 1 rfl) ?_
        refine va_alen hx hb hK hP 7 1 rfl rfl (v := nI cl) rfl dX3_place_32 ?_
        refine lv_bipush (v := nI 64) hx hb dX3_place_33 (by decide) ?_
        refine cw_min F hl.1 wdM_RX3_48 (by omega) (by decide) (by decide) (Nat.le_of_ble_eq_true rfl) (by decide) (by decide) dX3_place_35 ?_
        rw [show (nI (min cl 64) : Int32) = nI cl from congrArg nI (by omega)]
        refine cw_min F hl.1 wdM_RX3_48 (by omega) (by omega) (by decide) (Nat.le_of_ble_eq_true rfl) (by decide) (by decide) dX3_place_38 ?_
        rw [show (nI (min n cl) : Int32) = nI n from congrArg nI (by omega)]
        refine va_put (D := E.1) (ci := 3) (v := .int (nI n)) (ty := .int) (C := RX3) (T := TX3) (N := 10) hx hb hts iX3 tyX3 tyX3_ok nmX3 hown hK hP hD hS 0 rfl rfl 8 (by decide) (hts _ wdF_RX3_61) (fun _ h9 => h9) rfl (by decide +kernel) rfl rfl (Nat.le_of_ble_eq_true rfl) dX3_place_41 (fun H locs hP hD hS => ?_)
        have hP : va_P E.1 vwCl [(h0, ob 3 [.ref a1, .ref a2, .ref a3, .ref a4, .ref a5, .ref a6, .ref a7, .ref a8, .int (nI n), .int ve]), (a1, aI E 64 fx), (a2, aI E 64 fy), (a3, aI E 64 ff), (a6, aI E 64 (fun j => nI (o j))), (a7, aJ E 4 (faOf cd i)), (a8, aB E 4096 (seatOf kd 0)), (hc, aI E cl fc)] H := hP
        have hD : va_D A [(h0, ob 3 [.ref a1, .ref a2, .ref a3, .ref a4, .ref a5, .ref a6, .ref a7, .ref a8, .int (nI n), .int ve]), (a1, aI E 64 fx), (a2, aI E 64 fy), (a3, aI E 64 ff), (a6, aI E 64 (fun j => nI (o j))), (a7, aJ E 4 (faOf cd i)), (a8, aB E 4096 (seatOf kd 0)), (hc, aI E cl fc)] := hD
        refine lv_aload_n hx hb dX3_place_44 rfl (lv_at hl 0 rfl) ?_
        refine va_get (D := E.1) (ci := 3) (v := .ref a7) (C := RX3) (T := TX3) (N := 10) hx hb hts iX3 hown hK hP 0 rfl rfl 6 (by decide) (hts _ wdF_RX3_30) (fun _ h9 => h9) rfl dX3_place_45 ?_
        refine lv_lconst (v := 0) hx hb dX3_place_48 (by decide) ?_
        refine cV_go (wr := [(h0, ob 3 [.ref a1, .ref a2, .ref a3, .ref a4, .ref a5, .ref a6, .ref a7, .ref a8, .int (nI n), .int ve]), (a1, aI E 64 fx), (a2, aI E 64 fy), (a3, aI E 64 ff), (a6, aI E 64 (fun j => nI (o j))), (a8, aB E 4096 (seatOf kd 0)), (hc, aI E cl fc)]) (cM_runS (As := [.ref a7, .long 0]) (rest := []) F (c_J7_fill_d0a16 l E a7 4 (faOf cd i) 0 (by decide)) yy_J7_fill_d0a16 wdT_J7_fill_d0a16 wdM_RX3_69 hP hD hS hK hZ hA [5] rfl rfl rfl hl.1 rfl (Nat.le_of_ble_eq_true rfl) dX3_place_49 ⟨by decide, by decide⟩ ⟨by decide, by decide⟩) hP hD hS hA [5] [0, 1, 2, 3, 4, 6, 7] rfl rfl rfl (by decide) (fun u_14 H locs hw_13 hP hD hS => ?_)
        obtain ⟨gj, rfl⟩ : ∃ z, z = u_14 := ⟨_, rfl⟩
        try dsimp only at hw_13
        have hP : va_P E.1 vwCl [(h0, ob 3 [.ref a1, .ref a2, .ref a3, .ref a4, .ref a5, .ref a6, .ref a7, .ref a8, .int (nI n), .int ve]), (a1, aI E 64 fx), (a2, aI E 64 fy), (a3, aI E 64 ff), (a6, aI E 64 (fun j => nI (o j))), (a8, aB E 4096 (seatOf kd 0)), (hc, aI E cl fc), (a7, aJ E 4 gj)] H := hP
        have hD : va_D A [(h0, ob 3 [.ref a1, .ref a2, .ref a3, .ref a4, .ref a5, .ref a6, .ref a7, .ref a8, .int (nI n), .int ve]), (a1, aI E 64 fx), (a2, aI E 64 fy), (a3, aI E 64 ff), (a6, aI E 64 (fun j => nI (o j))), (a8, aB E 4096 (seatOf kd 0)), (hc, aI E cl fc), (a7, aJ E 4 gj)] := hD
        obtain ⟨hP, hD⟩ := cw_extJ (g := (faOf kd 0)) hP hD 7 rfl (fun j hj => (hw_13 j hj).trans rfl)
        have hP : va_P E.1 vwCl [(h0, ob 3 [.ref a1, .ref a2, .ref a3, .ref a4, .ref a5, .ref a6, .ref a7, .ref a8, .int (nI n), .int ve]), (a1, aI E 64 fx), (a2, aI E 64 fy), (a3, aI E 64 ff), (a6, aI E 64 (fun j => nI (o j))), (a8, aB E 4096 (seatOf kd 0)), (hc, aI E cl fc), (a7, aJ E 4 (faOf kd 0))] H := hP
        have hD : va_D A [(h0, ob 3 [.ref a1, .ref a2, .ref a3, .ref a4, .ref a5, .ref a6, .ref a7, .ref a8, .int (nI n), .int ve]), (a1, aI E 64 fx), (a2, aI E 64 fy), (a3, aI E 64 ff), (a6, aI E 64 (fun j => nI (o j))), (a8, aB E 4096 (seatOf kd 0)), (hc, aI E cl fc), (a7, aJ E 4 (faOf kd 0))] := hD
        refine lv_iconst (v := nI 0) hx hb dX3_place_52 (by decide) ?_
        refine lv_istore_n (lv' := [(3, .int (nI 0)), (0, .ref h0), (1, .ref hc), (2, .int (nI n))]) hx hb dX3_place_53 rfl hl (by decide) rfl (fun ls hl => ?_)
        have lb : ∀ (n_lb : Nat) (k : Nat) (gx : Nat → Int32) (gy : Nat → Int32) (gf : Nat → Int32) (hnb : n + 1 ≤ k + n_lb) (hk : k ≤ n) (hg : flo kd k gx gy gf) (H : Heap) (locs : List Loc) (ls : Array Slot), va_P E.1 vwCl [(h0, ob 3 [.ref a1, .ref a2, .ref a3, .ref a4, .ref a5, .ref a6, .ref a7, .ref a8, .int (nI n), .int ve]), (a1, aI E 64 gx), (a2, aI E 64 gy), (a3, aI E 64 gf), (a6, aI E 64 (fun j => nI (o j))), (a7, aJ E 4 (faOf kd k)), (a8, aB E 4096 (seatOf kd k)), (hc, aI E cl fc)] H → va_D A [(h0, ob 3 [.ref a1, .ref a2, .ref a3, .ref a4, .ref a5, .ref a6, .ref a7, .ref a8, .int (nI n), .int ve]), (a1, aI E 64 gx), (a2, aI E 64 gy), (a3, aI E 64 gf), (a6, aI E 64 (fun j => nI (o j))), (a7, aJ E 4 (faOf kd k)), (a8, aB E 4096 (seatOf kd k)), (hc, aI E cl fc)] → va_S A s.heap H locs → lv_has ls 5 [(0, .ref h0), (1, .ref hc), (2, .int (nI n)), (3, .int (nI k))] → W p l e rm_c_X3_place s m ([.ref h0, .ref hc, .int (nI n)] : List Value).toArray below meth c H locs 0 0 (MQ below ((qV E (fun (u : (Nat → Int32) × (Nat → Int32) × (Nat → Int32) × Int32) => match u with | (gx, gy, gf, v2) => flo kd n gx gy gf ∧ v2 = ve + nI 1) (fun (u : (Nat → Int32) × (Nat → Int32) × (Nat → Int32) × Int32) => match u with | (gx, gy, gf, v2) => [(h0, ob 3 [.ref a1, .ref a2, .ref a3, .ref a4, .ref a5, .ref a6, .ref a7, .ref a8, .int (nI n), .int v2]), (a1, aI E 64 gx), (a2, aI E 64 gy), (a3, aI E 64 gf), (a6, aI E 64 (fun j => nI (srtO (cdLt kd) o n j))), (a7, aJ E 4 (faOf kd n)), (a8, aB E 4096 (seatOf kd n)), (hc, aI E cl fc)])) A) ([.ref h0, .ref hc, .int (nI n)] : List Value).toArray s (rm_c_X3_place).cells (rm_c_X3_place).slots A) (F0 m 54 ls []) := by
          intro n_lb
          induction n_lb with
          | zero =>
            intro k gx gy gf hnb hk hg
            exfalso; omega
          | succ n_lb ih_lb =>
            intro k gx gy gf hnb hk hg H locs ls hP hD hS hl
            refine lv_iload_n hx hb dX3_place_54 rfl (lv_at hl 3 rfl) ?_
            refine lv_aload_n hx hb dX3_place_55 rfl (lv_at hl 0 rfl) ?_
            refine va_get (D := E.1) (ci := 3) (v := .int (nI n)) (C := RX3) (T := TX3) (N := 10) hx hb hts iX3 hown hK hP 0 rfl rfl 8 (by decide) (hts _ wdF_RX3_61) (fun _ h9 => h9) rfl dX3_place_56 ?_
            refine lv_icmp_ge (tgt := 144) hx hb dX3_place_59 (by decide) (fun c3 => ?_) (fun c3 => ?_)
            · have c4 : n ≤ k := (nI_leI (by omega) (by omega)).mp c3
              obtain rfl : k = n := by omega
              refine lv_aload_n hx hb dX3_place_144 rfl (lv_at hl 0 rfl) ?_
              refine cV_go (wr := [(a7, aJ E 4 (faOf kd k)), (a8, aB E 4096 (seatOf kd k)), (hc, aI E cl fc)]) (cM_runV (As := []) (rest := []) F (c_X3_sort l E h0 a1 a2 a3 a4 a5 a6 a7 a8 k ve kd gx gy gf o hg hn64) yy_X3_sort yi_X3_sort wdM_RX3_75 hP hD hS hK hZ hA [0, 1, 2, 3, 4] rfl rfl 0 3 rfl rfl rfl hl.1 rfl (Nat.le_of_ble_eq_true rfl) dX3_place_145 ⟨by decide, by decide⟩ ⟨by decide, by decide⟩) hP hD hS hA [0, 1, 2, 3, 4] [5, 6, 7] rfl rfl rfl (by decide) (fun u_17 H locs hw_16 hP hD hS => ?_)
              try dsimp only at hw_16
              have hP : va_P E.1 vwCl [(a7, aJ E 4 (faOf kd k)), (a8, aB E 4096 (seatOf kd k)), (hc, aI E cl fc), (h0, ob 3 [.ref a1, .ref a2, .ref a3, .ref a4, .ref a5, .ref a6, .ref a7, .ref a8, .int (nI k), .int ve]), (a1, aI E 64 gx), (a2, aI E 64 gy), (a3, aI E 64 gf), (a6, aI E 64 (fun j => nI (srtO (cdLt kd) o k j)))] H := hP
              have hD : va_D A [(a7, aJ E 4 (faOf kd k)), (a8, aB E 4096 (seatOf kd k)), (hc, aI E cl fc), (h0, ob 3 [.ref a1, .ref a2, .ref a3, .ref a4, .ref a5, .ref a6, .ref a7, .ref a8, .int (nI k), .int ve]), (a1, aI E 64 gx), (a2, aI E 64 gy), (a3, aI E 64 gf), (a6, aI E 64 (fun j => nI (srtO (cdLt kd) o k j)))] := hD
              refine lv_aload_n hx hb dX3_place_148 rfl (lv_at hl 0 rfl) ?_
              refine lv_dup hx hb dX3_place_149 rfl ?_
              refine va_get (D := E.1) (ci := 3) (v := .int ve) (C := RX3) (T := TX3) (N := 10) hx hb hts iX3 hown hK hP 3 rfl rfl 9 (by decide) (hts _ wdF_RX3_78) (fun _ h9 => h9) rfl dX3_place_150 ?_
              refine lv_iconst (v := nI 1) hx hb dX3_place_153 (by decide) ?_
              refine lv_iadd hx hb dX3_place_154 ?_
              refine lv_topi (fun f_19 ef_19 => ?_)
              refine va_put (D := E.1) (ci := 3) (v := .int f_19) (ty := .int) (C := RX3) (T := TX3) (N := 10) hx hb hts iX3 tyX3 tyX3_ok nmX3 hown hK hP hD hS 3 rfl rfl 9 (by decide) (hts _ wdF_RX3_78) (fun _ h9 => h9) rfl (by decide +kernel) rfl rfl (Nat.le_of_ble_eq_true rfl) dX3_place_155 (fun H locs hP hD hS => ?_)
              have hP : va_P E.1 vwCl [(a7, aJ E 4 (faOf kd k)), (a8, aB E 4096 (seatOf kd k)), (hc, aI E cl fc), (h0, ob 3 [.ref a1, .ref a2, .ref a3, .ref a4, .ref a5, .ref a6, .ref a7, .ref a8, .int (nI k), .int f_19]), (a1, aI E 64 gx), (a2, aI E 64 gy), (a3, aI E 64 gf), (a6, aI E 64 (fun j => nI (srtO (cdLt kd) o k j)))] H := hP
              have hD : va_D A [(a7, aJ E 4 (faOf kd k)), (a8, aB E 4096 (seatOf kd k)), (hc, aI E cl fc), (h0, ob 3 [.ref a1, .ref a2, .ref a3, .ref a4, .ref a5, .ref a6, .ref a7, .ref a8, .int (nI k), .int f_19]), (a1, aI E 64 gx), (a2, aI E 64 gy), (a3, aI E 64 gf), (a6, aI E 64 (fun j => nI (srtO (cdLt kd) o k j)))] := hD
              exact cV_ret F hP hD hS hK (gx, gy, gf, f_19) ⟨hg, ef_19⟩ [3, 4, 5, 6, 7, 0, 1, 2] rfl rfl dX3_place_158 (by decide) (by decide)
            · have c4 : k < n := Nat.lt_of_not_le (fun h => c3 (nI_le h (by omega)))
              obtain ⟨hk1, hk2, hk3⟩ := hkd k c4
              refine lv_aload_n hx hb dX3_place_62 rfl (lv_at hl 1 rfl) ?_
              refine lv_iload_n hx hb dX3_place_63 rfl (lv_at hl 3 rfl) ?_
              refine va_iald hx hb hK hP 7 1 rfl rfl (vp_in_nI (by omega) (by omega)) dX3_place_64 ?_
              rw [nI_clamp (n := k) (by omega)]
              refine lv_iconst (v := nI 2) hx hb dX3_place_65 (by decide) ?_
              refine lv_ishr hx hb dX3_place_66 ?_
              refine lv_sipush (v := nI 4095) hx hb dX3_place_67 (by decide) ?_
              refine lv_iand hx hb dX3_place_70 ?_
              rw [show (((fc k) >>> ((nI 2) &&& 31)) &&& (nI 4095) : Int32) = nI (kd k / 4) from hk2]
              refine lv_istore (lv' := [(4, .int (nI (kd k / 4))), (0, .ref h0), (1, .ref hc), (2, .int (nI n)), (3, .int (nI k))]) hx hb dX3_place_71 hl (by decide) rfl (fun ls hl => ?_)
              refine lv_aload_n hx hb dX3_place_73 rfl (lv_at hl 1 rfl) ?_
              refine va_get (D := E.1) (ci := 3) (v := .ref a1) (C := RX3) (T := TX3) (N := 10) hx hb hts iX3 hown hK hP 0 rfl rfl 0 (by decide) (hts _ wdF_RX3_9) (fun _ h9 => h9) rfl dX3_place_74 ?_
              refine lv_iload_n hx hb dX3_place_77 rfl (lv_at hl 4 rfl) ?_
              refine lv_iload hx hb dX3_place_78 (lv_at hl 0 rfl) ?_
              refine lv_bipush (v := nI 63) hx hb dX3_place_80 (by decide) ?_
              refine lv_iand hx hb dX3_place_82 ?_
              rw [show ((nI (kd k / 4)) &&& (nI 63) : Int32) = nI (kd k / 4 % 64) from pk_andN (by omega) 6 (by decide)]
              refine lv_iconst (v := nI 2) hx hb dX3_place_83 (by decide) ?_
              refine lv_ishl hx hb dX3_place_84 ?_
              rw [show ((nI (kd k / 4 % 64)) <<< ((nI 2) &&& 31) : Int32) = nI (4 * (kd k / 4 % 64)) from (pk_shlN (nI 2 &&& 31) 2 (by decide) (by omega)).trans (congrArg nI (by omega))]
              refine va_iast hx hb hK hP hD hS 1 1 rfl rfl (vp_in_nI (by omega) (by decide)) dX3_place_85 (fun H locs hP hD hS => ?_)
              have hP : va_P E.1 vwCl [(h0, ob 3 [.ref a1, .ref a2, .ref a3, .ref a4, .ref a5, .ref a6, .ref a7, .ref a8, .int (nI n), .int ve]), (a1, aI E 64 (upd gx (nI k).toNatClampNeg (nI (4 * (kd k / 4 % 64))))), (a2, aI E 64 gy), (a3, aI E 64 gf), (a6, aI E 64 (fun j => nI (o j))), (a7, aJ E 4 (faOf kd k)), (a8, aB E 4096 (seatOf kd k)), (hc, aI E cl fc)] H := hP
              have hD : va_D A [(h0, ob 3 [.ref a1, .ref a2, .ref a3, .ref a4, .ref a5, .ref a6, .ref a7, .ref a8, .int (nI n), .int ve]), (a1, aI E 64 (upd gx (nI k).toNatClampNeg (nI (4 * (kd k / 4 % 64))))), (a2, aI E 64 gy), (a3, aI E 64 gf), (a6, aI E 64 (fun j => nI (o j))), (a7, aJ E 4 (faOf kd k)), (a8, aB E 4096 (seatOf kd k)), (hc, aI E cl fc)] := hD
              rw [nI_clamp (n := k) (by omega)] at hP hD
              refine lv_aload_n hx hb dX3_place_86 rfl (lv_at hl 1 rfl) ?_
              refine va_get (D := E.1) (ci := 3) (v := .ref a2) (C := RX3) (T := TX3) (N := 10) hx hb hts iX3 hown hK hP 0 rfl rfl 1 (by decide) (hts _ wdF_RX3_15) (fun _ h9 => h9) rfl dX3_place_87 ?_
              refine lv_iload_n hx hb dX3_place_90 rfl (lv_at hl 4 rfl) ?_
              refine lv_iload hx hb dX3_place_91 (lv_at hl 0 rfl) ?_
              refine lv_bipush (v := nI 6) hx hb dX3_place_93 (by decide) ?_
              refine lv_ishr hx hb dX3_place_95 ?_
              rw [show ((nI (kd k / 4)) >>> ((nI 6) &&& 31) : Int32) = nI (kd k / 4 / 64) from pk_shrN (by omega) (nI 6 &&& 31) 6 (by decide)]
              refine lv_iconst (v := nI 2) hx hb dX3_place_96 (by decide) ?_
              refine lv_ishl hx hb dX3_place_97 ?_
              rw [show ((nI (kd k / 4 / 64)) <<< ((nI 2) &&& 31) : Int32) = nI (4 * (kd k / 256)) from (pk_shlN (nI 2 &&& 31) 2 (by decide) (by omega)).trans (congrArg nI (by omega))]
              refine va_iast hx hb hK hP hD hS 2 1 rfl rfl (vp_in_nI (by omega) (by decide)) dX3_place_98 (fun H locs hP hD hS => ?_)
              have hP : va_P E.1 vwCl [(h0, ob 3 [.ref a1, .ref a2, .ref a3, .ref a4, .ref a5, .ref a6, .ref a7, .ref a8, .int (nI n), .int ve]), (a1, aI E 64 (upd gx k (nI (4 * (kd k / 4 % 64))))), (a2, aI E 64 (upd gy (nI k).toNatClampNeg (nI (4 * (kd k / 256))))), (a3, aI E 64 gf), (a6, aI E 64 (fun j => nI (o j))), (a7, aJ E 4 (faOf kd k)), (a8, aB E 4096 (seatOf kd k)), (hc, aI E cl fc)] H := hP
              have hD : va_D A [(h0, ob 3 [.ref a1, .ref a2, .ref a3, .ref a4, .ref a5, .ref a6, .ref a7, .ref a8, .int (nI n), .int ve]), (a1, aI E 64 (upd gx k (nI (4 * (kd k / 4 % 64))))), (a2, aI E 64 (upd gy (nI k).toNatClampNeg (nI (4 * (kd k / 256))))), (a3, aI E 64 gf), (a6, aI E 64 (fun j => nI (o j))), (a7, aJ E 4 (faOf kd k)), (a8, aB E 4096 (seatOf kd k)), (hc, aI E cl fc)] := hD
              rw [nI_clamp (n := k) (by omega)] at hP hD
              refine lv_aload_n hx hb dX3_place_99 rfl (lv_at hl 1 rfl) ?_
              refine va_get (D := E.1) (ci := 3) (v := .ref a3) (C := RX3) (T := TX3) (N := 10) hx hb hts iX3 hown hK hP 0 rfl rfl 2 (by decide) (hts _ wdF_RX3_18) (fun _ h9 => h9) rfl dX3_place_100 ?_
              refine lv_iload_n hx hb dX3_place_103 rfl (lv_at hl 4 rfl) ?_
              refine lv_aload_n hx hb dX3_place_104 rfl (lv_at hl 2 rfl) ?_
              refine lv_iload_n hx hb dX3_place_105 rfl (lv_at hl 4 rfl) ?_
              refine va_iald hx hb hK hP 7 1 rfl rfl (vp_in_nI (by omega) (by omega)) dX3_place_106 ?_
              rw [nI_clamp (n := k) (by omega)]
              refine lv_iconst (v := nI 3) hx hb dX3_place_107 (by decide) ?_
              refine lv_iand hx hb dX3_place_108 ?_
              rw [show ((fc k) &&& (nI 3) : Int32) = nI (kd k % 4) from hk3]
              refine va_iast hx hb hK hP hD hS 3 1 rfl rfl (vp_in_nI (by omega) (by decide)) dX3_place_109 (fun H locs hP hD hS => ?_)
              have hP : va_P E.1 vwCl [(h0, ob 3 [.ref a1, .ref a2, .ref a3, .ref a4, .ref a5, .ref a6, .ref a7, .ref a8, .int (nI n), .int ve]), (a1, aI E 64 (upd gx k (nI (4 * (kd k / 4 % 64))))), (a2, aI E 64 (upd gy k (nI (4 * (kd k / 256))))), (a3, aI E 64 (upd gf (nI k).toNatClampNeg (nI (kd k % 4)))), (a6, aI E 64 (fun j => nI (o j))), (a7, aJ E 4 (faOf kd k)), (a8, aB E 4096 (seatOf kd k)), (hc, aI E cl fc)] H := hP
              have hD : va_D A [(h0, ob 3 [.ref a1, .ref a2, .ref a3, .ref a4, .ref a5, .ref a6, .ref a7, .ref a8, .int (nI n), .int ve]), (a1, aI E 64 (upd gx k (nI (4 * (kd k / 4 % 64))))), (a2, aI E 64 (upd gy k (nI (4 * (kd k / 256))))), (a3, aI E 64 (upd gf (nI k).toNatClampNeg (nI (kd k % 4)))), (a6, aI E 64 (fun j => nI (o j))), (a7, aJ E 4 (faOf kd k)), (a8, aB E 4096 (seatOf kd k)), (hc, aI E cl fc)] := hD
              rw [nI_clamp (n := k) (by omega)] at hP hD
              refine lv_aload_n hx hb dX3_place_110 rfl (lv_at hl 1 rfl) ?_
              refine va_get (D := E.1) (ci := 3) (v := .ref a7) (C := RX3) (T := TX3) (N := 10) hx hb hts iX3 hown hK hP 0 rfl rfl 6 (by decide) (hts _ wdF_RX3_30) (fun _ h9 => h9) rfl dX3_place_111 ?_
              refine lv_aload_n hx hb dX3_place_114 rfl (lv_at hl 1 rfl) ?_
              refine va_get (D := E.1) (ci := 3) (v := .ref a3) (C := RX3) (T := TX3) (N := 10) hx hb hts iX3 hown hK hP 0 rfl rfl 2 (by decide) (hts _ wdF_RX3_18) (fun _ h9 => h9) rfl dX3_place_115 ?_
              refine lv_iload_n hx hb dX3_place_118 rfl (lv_at hl 4 rfl) ?_
              refine va_iald hx hb hK hP 3 1 rfl rfl (vp_in_nI (by omega) (by decide)) dX3_place_119 ?_
              rw [nI_clamp (n := k) (by omega)]
              rw [show upd gf k (nI (kd k % 4)) k = nI (kd k % 4) from pk_us]
              refine lv_dup2_11 hx hb dX3_place_120 rfl rfl ?_
              refine va_lald hx hb hK hP 5 2 rfl rfl (vp_in_nI (by omega) (by decide)) dX3_place_121 ?_
              rw [nI_clamp (n := (kd k % 4)) (by omega)]
              refine lv_lconst (v := 1) hx hb dX3_place_122 (by decide) ?_
              refine lv_iload_n hx hb dX3_place_123 rfl (lv_at hl 4 rfl) ?_
              refine lv_lshl hx hb dX3_place_124 rfl ?_
              refine lv_lor hx hb dX3_place_125 ?_
              refine va_last hx hb hK hP hD hS 5 2 rfl rfl (vp_in_nI (by omega) (by decide)) dX3_place_126 (fun H locs hP hD hS => ?_)
              have hP : va_P E.1 vwCl [(h0, ob 3 [.ref a1, .ref a2, .ref a3, .ref a4, .ref a5, .ref a6, .ref a7, .ref a8, .int (nI n), .int ve]), (a1, aI E 64 (upd gx k (nI (4 * (kd k / 4 % 64))))), (a2, aI E 64 (upd gy k (nI (4 * (kd k / 256))))), (a3, aI E 64 (upd gf k (nI (kd k % 4)))), (a6, aI E 64 (fun j => nI (o j))), (a7, aJ E 4 (vp_updL (faOf kd k) (nI (kd k % 4)).toNatClampNeg (((faOf kd k) (kd k % 4)) ||| (1 <<< ((nI k).toInt64 &&& 63))))), (a8, aB E 4096 (seatOf kd k)), (hc, aI E cl fc)] H := hP
              have hD : va_D A [(h0, ob 3 [.ref a1, .ref a2, .ref a3, .ref a4, .ref a5, .ref a6, .ref a7, .ref a8, .int (nI n), .int ve]), (a1, aI E 64 (upd gx k (nI (4 * (kd k / 4 % 64))))), (a2, aI E 64 (upd gy k (nI (4 * (kd k / 256))))), (a3, aI E 64 (upd gf k (nI (kd k % 4)))), (a6, aI E 64 (fun j => nI (o j))), (a7, aJ E 4 (vp_updL (faOf kd k) (nI (kd k % 4)).toNatClampNeg (((faOf kd k) (kd k % 4)) ||| (1 <<< ((nI k).toInt64 &&& 63))))), (a8, aB E 4096 (seatOf kd k)), (hc, aI E cl fc)] := hD
              rw [nI_clamp (n := (kd k % 4)) (by omega)] at hP hD
              rw [faOf_upd] at hP hD
              refine lv_aload_n hx hb dX3_place_127 rfl (lv_at hl 1 rfl) ?_
              refine va_get (D := E.1) (ci := 3) (v := .ref a8) (C := RX3) (T := TX3) (N := 10) hx hb hts iX3 hown hK hP 0 rfl rfl 7 (by decide) (hts _ wdF_RX3_34) (fun _ h9 => h9) rfl dX3_place_128 ?_
              refine lv_iload hx hb dX3_place_131 (lv_at hl 0 rfl) ?_
              refine lv_iload_n hx hb dX3_place_133 rfl (lv_at hl 4 rfl) ?_
              refine lv_iconst (v := nI 1) hx hb dX3_place_134 (by decide) ?_
              refine lv_iadd hx hb dX3_place_135 ?_
              rw [nI_add k 1]
              refine lv_i2b hx hb dX3_place_136 rfl ?_
              refine va_bast hx hb hK hP hD hS 6 0 rfl rfl (vp_in_nI (by omega) (by decide)) dX3_place_137 (fun H locs hP hD hS => ?_)
              have hP : va_P E.1 vwCl [(h0, ob 3 [.ref a1, .ref a2, .ref a3, .ref a4, .ref a5, .ref a6, .ref a7, .ref a8, .int (nI n), .int ve]), (a1, aI E 64 (upd gx k (nI (4 * (kd k / 4 % 64))))), (a2, aI E 64 (upd gy k (nI (4 * (kd k / 256))))), (a3, aI E 64 (upd gf k (nI (kd k % 4)))), (a6, aI E 64 (fun j => nI (o j))), (a7, aJ E 4 (faOf kd (k + 1))), (a8, aB E 4096 (upd (seatOf kd k) (nI (kd k / 4)).toNatClampNeg (vp_nar .byte ((nI (k + 1)).toInt8.toInt32)))), (hc, aI E cl fc)] H := hP
              have hD : va_D A [(h0, ob 3 [.ref a1, .ref a2, .ref a3, .ref a4, .ref a5, .ref a6, .ref a7, .ref a8, .int (nI n), .int ve]), (a1, aI E 64 (upd gx k (nI (4 * (kd k / 4 % 64))))), (a2, aI E 64 (upd gy k (nI (4 * (kd k / 256))))), (a3, aI E 64 (upd gf k (nI (kd k % 4)))), (a6, aI E 64 (fun j => nI (o j))), (a7, aJ E 4 (faOf kd (k + 1))), (a8, aB E 4096 (upd (seatOf kd k) (nI (kd k / 4)).toNatClampNeg (vp_nar .byte ((nI (k + 1)).toInt8.toInt32)))), (hc, aI E cl fc)] := hD
              rw [nI_clamp (n := (kd k / 4)) (by omega)] at hP hD
              rw [cw_narB (by omega), seatOf_upd] at hP hD
              refine lv_iinc (v := nI (k + 1)) (lv' := [(3, .int (nI (k + 1))), (4, .int (nI (kd k / 4))), (0, .ref h0), (1, .ref hc), (2, .int (nI n))]) hx hb dX3_place_138 hl (k := 4) rfl (nI_1 k) (by decide) rfl (fun ls hl => ?_)
              refine lv_goto (tgt := 54) hx hb dX3_place_141 (by decide) ?_
              exact ih_lb (k + 1) (upd gx k (nI (4 * (kd k / 4 % 64)))) (upd gy k (nI (4 * (kd k / 256)))) (upd gf k (nI (kd k % 4))) (by omega) (by omega) (flo_upd hg hk1) _ _ _ hP hD hS (lv_sub hl [2, 3, 4, 0] rfl)
        exact lb (n + 1) 0 fx fy ff (by omega) (by omega) (fun d h => absurd h (by omega)) _ _ _ (hP.sub [0, 1, 2, 3, 4, 7, 5, 6] rfl) (hD.sub [0, 1, 2, 3, 4, 7, 5, 6] rfl rfl) hS (lv_sub hl [1, 2, 3, 0] rfl)
      · have c2 : i < N := Nat.lt_of_not_le (fun h => c1 (nI_le h (by omega)))
        refine lv_aload_n hx hb dX3_place_10 rfl (lv_at hl 0 rfl) ?_
        refine va_get (D := E.1) (ci := 3) (v := .ref a8) (C := RX3) (T := TX3) (N := 10) hx hb hts iX3 hown hK hP 0 rfl rfl 7 (by decide) (hts _ wdF_RX3_34) (fun _ h9 => h9) rfl dX3_place_11 ?_
        refine lv_aload_n hx hb dX3_place_14 rfl (lv_at hl 0 rfl) ?_
        refine lv_iload_n hx hb dX3_place_15 rfl (lv_at hl 3 rfl) ?_
        refine cI_go (wr := [(a6, aI E 64 (fun j => nI (o j))), (a7, aJ E 4 (faOf cd N)), (a8, aB E 4096 (clrS cd (seatOf cd N) i)), (hc, aI E cl fc)]) (cM_runV (As := [.int (nI i)]) (rest := [.ref a8]) F (c_X3_codeAt l E h0 a1 a2 a3 a4 a5 a6 a7 a8 N ve cd fx fy ff i hf hN c2) yy_X3_codeAt yi_X3_codeAt wdM_RX3_65 hP hD hS hK hZ hA [0, 1, 2, 3] rfl rfl 0 3 rfl rfl rfl hl.1 rfl (Nat.le_of_ble_eq_true rfl) dX3_place_16 ⟨by decide, by decide⟩ ⟨by decide, by decide⟩) hP hD hS hA [0, 1, 2, 3] [4, 5, 6, 7] rfl rfl rfl (by decide) (fun r_12 u_11 H locs hw_10 hP hD hS => ?_)
        try dsimp only at hw_10
        have hP : va_P E.1 vwCl [(a6, aI E 64 (fun j => nI (o j))), (a7, aJ E 4 (faOf cd N)), (a8, aB E 4096 (clrS cd (seatOf cd N) i)), (hc, aI E cl fc), (h0, ob 3 [.ref a1, .ref a2, .ref a3, .ref a4, .ref a5, .ref a6, .ref a7, .ref a8, .int (nI N), .int ve]), (a1, aI E 64 fx), (a2, aI E 64 fy), (a3, aI E 64 ff)] H := hP
        have hD : va_D A [(a6, aI E 64 (fun j => nI (o j))), (a7, aJ E 4 (faOf cd N)), (a8, aB E 4096 (clrS cd (seatOf cd N) i)), (hc, aI E cl fc), (h0, ob 3 [.ref a1, .ref a2, .ref a3, .ref a4, .ref a5, .ref a6, .ref a7, .ref a8, .int (nI N), .int ve]), (a1, aI E 64 fx), (a2, aI E 64 fy), (a3, aI E 64 ff)] := hD
        subst hw_10
        have hci := (hf i c2).1
        refine lv_iconst (v := nI 2) hx hb dX3_place_19 (by decide) ?_
        refine lv_ishr hx hb dX3_place_20 ?_
        rw [show ((nI (cd i)) >>> ((nI 2) &&& 31) : Int32) = nI (cd i / 4) from pk_shrN (by omega) (nI 2 &&& 31) 2 (by decide)]
        refine lv_iconst (v := nI 0) hx hb dX3_place_21 (by decide) ?_
        refine va_bast hx hb hK hP hD hS 2 0 rfl rfl (vp_in_nI (by omega) (by decide)) dX3_place_22 (fun H locs hP hD hS => ?_)
        have hP : va_P E.1 vwCl [(a6, aI E 64 (fun j => nI (o j))), (a7, aJ E 4 (faOf cd N)), (a8, aB E 4096 (upd (clrS cd (seatOf cd N) i) (nI (cd i / 4)).toNatClampNeg (vp_nar .byte (nI 0)))), (hc, aI E cl fc), (h0, ob 3 [.ref a1, .ref a2, .ref a3, .ref a4, .ref a5, .ref a6, .ref a7, .ref a8, .int (nI N), .int ve]), (a1, aI E 64 fx), (a2, aI E 64 fy), (a3, aI E 64 ff)] H := hP
        have hD : va_D A [(a6, aI E 64 (fun j => nI (o j))), (a7, aJ E 4 (faOf cd N)), (a8, aB E 4096 (upd (clrS cd (seatOf cd N) i) (nI (cd i / 4)).toNatClampNeg (vp_nar .byte (nI 0)))), (hc, aI E cl fc), (h0, ob 3 [.ref a1, .ref a2, .ref a3, .ref a4, .ref a5, .ref a6, .ref a7, .ref a8, .int (nI N), .int ve]), (a1, aI E 64 fx), (a2, aI E 64 fy), (a3, aI E 64 ff)] := hD
        rw [nI_clamp (n := (cd i / 4)) (by omega)] at hP hD
        rw [cw_nar0, clrS_upd] at hP hD
        refine lv_iinc (v := nI (i + 1)) (lv' := [(3, .int (nI (i + 1))), (0, .ref h0), (1, .ref hc), (2, .int (nI n))]) hx hb dX3_place_23 hl (k := 3) rfl (nI_1 i) (by decide) rfl (fun ls hl => ?_)
        refine lv_goto (tgt := 2) hx hb dX3_place_26 (by decide) ?_
        exact ih_la (i + 1) (by omega) (by omega) _ _ _ (hP.sub [4, 5, 6, 7, 0, 1, 2, 3] rfl) (hD.sub [4, 5, 6, 7, 0, 1, 2, 3] rfl rfl) hS (lv_sub hl [1, 2, 3, 0] rfl)
  exact la (N + 1) 0 (by omega) (by omega) _ _ _ hP hD hS (lv_sub hl [1, 2, 3, 0] rfl)
theorem yy_X3_place : cY yX3_place cX3_place 5 none 2 := ⟨wdK_X3_place, wdZ_RX3, by decide +kernel⟩
theorem yi_X3_place : cYi yX3_place := ⟨wdN_X3_place, wdS_X3_place⟩
