def pkB (v : Int32) : Int64 := ((v &&& nI 63) ||| ((v >>> ((nI 2) &&& 31)) &&& nI 960)).toInt64
def pkK (f : Nat → Int32) : Nat → Nat → Int64
  | 0 => fun _ => 0
  | i + 1 => vp_updL (pkK f i) (i / 6) (pkK f i (i / 6) ||| pkB (f i) <<< ((nI (10 * (i % 6))).toInt64 &&& 63))
theorem pkK_congr {f g : Nat → Int32} : ∀ n, (∀ d, d < n → f d = g d) → pkK f n = pkK g n := by
  intro n
  induction n with
  | zero => intro _; rfl
  | succ n ih =>
    intro h
    unfold pkK
    rw [ih (fun d hd => h d (by omega)), h n (by omega)]
def stN (d : Nat) : Int32 := nI (stC 0 d)
theorem cpy3 {f g : Nat → Int64} : ∀ j, j < 6000 → va_cpy f g (nI 0).toNatClampNeg (nI 0).toNatClampNeg (nI 3).toNatClampNeg j = if j < 3 then f j else g j := by
  intro j _
  rw [nI_clamp (n := 0) (by decide), nI_clamp (n := 3) (by decide)]
  unfold va_cpy
  by_cases h : j < 3
  · rw [if_pos ⟨by omega, by omega⟩, if_pos h]; congr 1; omega
  · rw [if_neg (fun q => h (by omega)), if_neg h]
theorem wd_acn : Cond.native arraycopyName ∈ TB := TB_4 (List.mem_of_getElem? (i := 117) rfl) rfl
theorem wd_acs : Cond.static arraycopyName ∈ TB := TB_4 (List.mem_of_getElem? (i := 116) rfl) rfl
theorem wd_acz : Cond.initialized "java/lang/System" ∈ TB := TB_1 (List.mem_of_getElem? (i := 20) rfl) rfl
theorem wd_acl : Cond.methodLink RX9 141 arraycopyName ∈ TB := TB_6 (List.mem_of_getElem? (i := 129) rfl) rfl
theorem dJ7_fill_fb410_0 : decode cJ7_fill_fb410 0 = .ok (.iconst 0, 1) := by decide +kernel
theorem dJ7_fill_fb410_1 : decode cJ7_fill_fb410 1 = .ok (.istore_n 2, 1) := by decide +kernel
theorem dJ7_fill_fb410_2 : decode cJ7_fill_fb410 2 = .ok (.aload_n 0, 1) := by decide +kernel
theorem dJ7_fill_fb410_3 : decode cJ7_fill_fb410 3 = .ok (.arraylength, 1) := by decide +kernel
theorem dJ7_fill_fb410_4 : decode cJ7_fill_fb410 4 = .ok (.istore_n 3, 1) := by decide +kernel
theorem dJ7_fill_fb410_5 : decode cJ7_fill_fb410 5 = .ok (.iload_n 2, 1) := by decide +kernel
theorem dJ7_fill_fb410_6 : decode cJ7_fill_fb410 6 = .ok (.iload_n 3, 1) := by decide +kernel
theorem dJ7_fill_fb410_7 : decode cJ7_fill_fb410 7 = .ok (.if_icmp .ge 13, 3) := by decide +kernel
theorem dJ7_fill_fb410_10 : decode cJ7_fill_fb410 10 = .ok (.aload_n 0, 1) := by decide +kernel
theorem dJ7_fill_fb410_11 : decode cJ7_fill_fb410 11 = .ok (.iload_n 2, 1) := by decide +kernel
theorem dJ7_fill_fb410_12 : decode cJ7_fill_fb410 12 = .ok (.iload_n 1, 1) := by decide +kernel
theorem dJ7_fill_fb410_13 : decode cJ7_fill_fb410 13 = .ok (.sastore, 1) := by decide +kernel
theorem dJ7_fill_fb410_14 : decode cJ7_fill_fb410 14 = .ok (.iinc 2 1, 3) := by decide +kernel
theorem dJ7_fill_fb410_17 : decode cJ7_fill_fb410 17 = .ok (.goto (-12), 3) := by decide +kernel
theorem dJ7_fill_fb410_20 : decode cJ7_fill_fb410 20 = .ok (.return_, 1) := by decide +kernel
abbrev rm_c_J7_fill_fb410 : Room := { frames := 0, cells := 0, slots := 0, locals := 0 }
set_option maxHeartbeats 4000000 in
set_option maxRecDepth 100000 in
theorem c_J7_fill_fb410 (l : Launch) (E : cE) (q : Nat) (n : Nat) (f : Nat → Int32) (v : Int32) (hn9 : n < 2 ^ 31) : cM l E yJ7_fill_fb410 cJ7_fill_fb410 4 none rm_c_J7_fill_fb410 [.ref q, .int v] [(q, aS E n f)] (qV E (fun (g : Nat → Int32) => ∀ j, j < n → g j = vp_nar .short v) (fun (g : Nat → Int32) => [(q, aS E n g)])) := by
  refine cM_of (by decide) (Nat.le_of_ble_eq_true rfl) ?_
  intro p e s m below meth c ls A F hA hS hP hD hK hZ hl
  obtain ⟨hx, hb, hr, hml, hown, hts, hlk, hin⟩ := id F
  have hown : s.vm.findClass RJ7 = some m.cls := hown
  have hl : lv_has ls 4 [(0, .ref q), (1, .int v)] := hl
  refine lv_iconst (v := nI 0) hx hb dJ7_fill_fb410_0 (by decide) ?_
  refine lv_istore_n (lv' := [(2, .int (nI 0)), (0, .ref q), (1, .int v)]) hx hb dJ7_fill_fb410_1 rfl hl (by decide) rfl (fun ls hl => ?_)
  refine lv_aload_n hx hb dJ7_fill_fb410_2 rfl (lv_at hl 1 rfl) ?_
  refine va_alen hx hb hK hP 0 3 rfl rfl (v := nI n) rfl dJ7_fill_fb410_3 ?_
  refine lv_istore_n (lv' := [(3, .int (nI n)), (2, .int (nI 0)), (0, .ref q), (1, .int v)]) hx hb dJ7_fill_fb410_4 rfl hl (by decide) rfl (fun ls hl => ?_)
  have lp : ∀ (n_lp : Nat) (i : Nat) (g : Nat → Int32) (hn : n + 1 ≤ i + n_lp) (hi : i ≤ n) (hg : ∀ j, j < i → g j = vp_nar .short v) (H : Heap) (locs : List Loc) (ls : Array Slot), va_P E.1 vwCl [(q, aS E n g)] H → va_D A [(q, aS E n g)] → va_S A s.heap H locs → lv_has ls 4 [(0, .ref q), (1, .int v), (2, .int (nI i)), (3, .int (nI n))] → W p l e rm_c_J7_fill_fb410 s m ([.ref q, .int v] : List Value).toArray below meth c H locs 0 0 (MQ below ((qV E (fun (g : Nat → Int32) => ∀ j, j < n → g j = vp_nar .short v) (fun (g : Nat → Int32) => [(q, aS E n g)])) A) ([.ref q, .int v] : List Value).toArray s (rm_c_J7_fill_fb410).cells (rm_c_J7_fill_fb410).slots A) (F0 m 5 ls []) := by
    intro n_lp
    induction n_lp with
    | zero =>
      intro i g hn hi hg
      exfalso; omega
    | succ n_lp ih_lp =>
      intro i g hn hi hg H locs ls hP hD hS hl
      refine lv_iload_n hx hb dJ7_fill_fb410_5 rfl (lv_at hl 2 rfl) ?_
      refine lv_iload_n hx hb dJ7_fill_fb410_6 rfl (lv_at hl 3 rfl) ?_
      refine lv_icmp_ge (tgt := 20) hx hb dJ7_fill_fb410_7 (by decide) (fun c1 => ?_) (fun c1 => ?_)
      · have c2 : n ≤ i := (nI_leI (by omega) (by omega)).mp c1
        exact cV_ret F hP hD hS hK g (fun j hj => hg j (by omega)) [0] rfl rfl dJ7_fill_fb410_20 (by decide) (by decide)
      · have c2 : i < n := Nat.lt_of_not_le (fun h => c1 (nI_le h (by omega)))
        refine lv_aload_n hx hb dJ7_fill_fb410_10 rfl (lv_at hl 0 rfl) ?_
        refine lv_iload_n hx hb dJ7_fill_fb410_11 rfl (lv_at hl 2 rfl) ?_
        refine lv_iload_n hx hb dJ7_fill_fb410_12 rfl (lv_at hl 1 rfl) ?_
        refine va_sast hx hb hK hP hD hS 0 3 rfl rfl (vp_in_nI c2 (by omega)) dJ7_fill_fb410_13 (fun H locs hP hD hS => ?_)
        have hP : va_P E.1 vwCl [(q, aS E n (upd g (nI i).toNatClampNeg (vp_nar .short v)))] H := hP
        have hD : va_D A [(q, aS E n (upd g (nI i).toNatClampNeg (vp_nar .short v)))] := hD
        rw [nI_clamp (n := i) (by omega)] at hP hD
        refine lv_iinc (v := nI (i + 1)) (lv' := [(2, .int (nI (i + 1))), (0, .ref q), (1, .int v), (3, .int (nI n))]) hx hb dJ7_fill_fb410_14 hl (k := 2) rfl (nI_1 i) (by decide) rfl (fun ls hl => ?_)
        refine lv_goto (tgt := 5) hx hb dJ7_fill_fb410_17 (by decide) ?_
        exact ih_lp (i + 1) (upd g i (vp_nar .short v)) (by omega) (by omega) (fun j hj => (Decidable.em (j = i)).elim (fun h => by rw [h]; exact pk_us) (fun h => by rw [pk_un h]; exact hg j (by omega))) _ _ _ hP hD hS (lv_sub hl [1, 2, 0, 3] rfl)
  exact lp (n + 1) 0 f (by omega) (by omega) (fun j h => absurd h (by omega)) _ _ _ hP hD hS (lv_sub hl [2, 3, 1, 0] rfl)
theorem yy_J7_fill_fb410 : cY yJ7_fill_fb410 cJ7_fill_fb410 4 none 2 := ⟨wdK_J7_fill_fb410, wdZ_RJ7, by decide +kernel⟩
theorem dX9_pack_0 : decode cX9_pack 0 = .ok (.aload_n 0, 1) := by decide +kernel
theorem dX9_pack_1 : decode cX9_pack 1 = .ok (.getfield 33, 3) := by decide +kernel
theorem dX9_pack_4 : decode cX9_pack 4 = .ok (.lconst 0, 1) := by decide +kernel
theorem dX9_pack_5 : decode cX9_pack 5 = .ok (.invokestatic 131, 3) := by decide +kernel
theorem dX9_pack_8 : decode cX9_pack 8 = .ok (.iconst 0, 1) := by decide +kernel
theorem dX9_pack_9 : decode cX9_pack 9 = .ok (.istore_n 3, 1) := by decide +kernel
theorem dX9_pack_10 : decode cX9_pack 10 = .ok (.iload_n 3, 1) := by decide +kernel
theorem dX9_pack_11 : decode cX9_pack 11 = .ok (.iload_n 2, 1) := by decide +kernel
theorem dX9_pack_12 : decode cX9_pack 12 = .ok (.if_icmp .ge 62, 3) := by decide +kernel
theorem dX9_pack_15 : decode cX9_pack 15 = .ok (.iload_n 3, 1) := by decide +kernel
theorem dX9_pack_16 : decode cX9_pack 16 = .ok (.bipush 16, 2) := by decide +kernel
theorem dX9_pack_18 : decode cX9_pack 18 = .ok (.if_icmp .ge 56, 3) := by decide +kernel
theorem dX9_pack_21 : decode cX9_pack 21 = .ok (.iload_n 3, 1) := by decide +kernel
theorem dX9_pack_22 : decode cX9_pack 22 = .ok (.aload_n 1, 1) := by decide +kernel
theorem dX9_pack_23 : decode cX9_pack 23 = .ok (.arraylength, 1) := by decide +kernel
theorem dX9_pack_24 : decode cX9_pack 24 = .ok (.if_icmp .ge 50, 3) := by decide +kernel
theorem dX9_pack_27 : decode cX9_pack 27 = .ok (.aload_n 1, 1) := by decide +kernel
theorem dX9_pack_28 : decode cX9_pack 28 = .ok (.iload_n 3, 1) := by decide +kernel
theorem dX9_pack_29 : decode cX9_pack 29 = .ok (.iaload, 1) := by decide +kernel
theorem dX9_pack_30 : decode cX9_pack 30 = .ok (.bipush 63, 2) := by decide +kernel
theorem dX9_pack_32 : decode cX9_pack 32 = .ok (.iand, 1) := by decide +kernel
theorem dX9_pack_33 : decode cX9_pack 33 = .ok (.aload_n 1, 1) := by decide +kernel
theorem dX9_pack_34 : decode cX9_pack 34 = .ok (.iload_n 3, 1) := by decide +kernel
theorem dX9_pack_35 : decode cX9_pack 35 = .ok (.iaload, 1) := by decide +kernel
theorem dX9_pack_36 : decode cX9_pack 36 = .ok (.iconst 2, 1) := by decide +kernel
theorem dX9_pack_37 : decode cX9_pack 37 = .ok (.ishr, 1) := by decide +kernel
theorem dX9_pack_38 : decode cX9_pack 38 = .ok (.sipush 960, 3) := by decide +kernel
theorem dX9_pack_41 : decode cX9_pack 41 = .ok (.iand, 1) := by decide +kernel
theorem dX9_pack_42 : decode cX9_pack 42 = .ok (.ior, 1) := by decide +kernel
theorem dX9_pack_43 : decode cX9_pack 43 = .ok (.i2l, 1) := by decide +kernel
theorem dX9_pack_44 : decode cX9_pack 44 = .ok (.lstore 4, 2) := by decide +kernel
theorem dX9_pack_46 : decode cX9_pack 46 = .ok (.aload_n 0, 1) := by decide +kernel
theorem dX9_pack_47 : decode cX9_pack 47 = .ok (.getfield 33, 3) := by decide +kernel
theorem dX9_pack_50 : decode cX9_pack 50 = .ok (.iload_n 3, 1) := by decide +kernel
theorem dX9_pack_51 : decode cX9_pack 51 = .ok (.bipush 6, 2) := by decide +kernel
theorem dX9_pack_53 : decode cX9_pack 53 = .ok (.idiv, 1) := by decide +kernel
theorem dX9_pack_54 : decode cX9_pack 54 = .ok (.dup2, 1) := by decide +kernel
theorem dX9_pack_55 : decode cX9_pack 55 = .ok (.laload, 1) := by decide +kernel
theorem dX9_pack_56 : decode cX9_pack 56 = .ok (.lload 4, 2) := by decide +kernel
theorem dX9_pack_58 : decode cX9_pack 58 = .ok (.bipush 10, 2) := by decide +kernel
theorem dX9_pack_60 : decode cX9_pack 60 = .ok (.iload_n 3, 1) := by decide +kernel
theorem dX9_pack_61 : decode cX9_pack 61 = .ok (.bipush 6, 2) := by decide +kernel
theorem dX9_pack_63 : decode cX9_pack 63 = .ok (.irem, 1) := by decide +kernel
theorem dX9_pack_64 : decode cX9_pack 64 = .ok (.imul, 1) := by decide +kernel
theorem dX9_pack_65 : decode cX9_pack 65 = .ok (.lshl, 1) := by decide +kernel
theorem dX9_pack_66 : decode cX9_pack 66 = .ok (.lor, 1) := by decide +kernel
theorem dX9_pack_67 : decode cX9_pack 67 = .ok (.lastore, 1) := by decide +kernel
theorem dX9_pack_68 : decode cX9_pack 68 = .ok (.iinc 3 1, 3) := by decide +kernel
theorem dX9_pack_71 : decode cX9_pack 71 = .ok (.goto (-61), 3) := by decide +kernel
theorem dX9_pack_74 : decode cX9_pack 74 = .ok (.return_, 1) := by decide +kernel
abbrev rm_c_X9_pack : Room := { frames := 1, cells := 0, slots := 0, locals := 24 }
set_option maxHeartbeats 4000000 in
set_option maxRecDepth 100000 in
theorem c_X9_pack (l : Launch) (E : cE) (h0 : Nat) (ad : Nat → Nat) (gx : Nat → Int32) (gy : Nat → Int32) (gf : Nat → Int32) (v2 : Int32) (gt : Nat → Int32) (gh : Nat → Int32) (gc : Nat → Int32) (sz : Int32) (wd : Int32) (sn : Int32) (ln : Int32) (ic : Int32) (ns : Int32) (hc : Nat) (cl : Nat) (fc : Nat → Int32) (kf : Nat → Int64) (n : Nat) (hn16 : n ≤ 16) (hncl : n ≤ cl) (hcl : cl ≤ 64) : cM l E yX9_pack cX9_pack 6 none rm_c_X9_pack [.ref (ad 61), .ref hc, .int (nI n)] [((ad 61), ob 9 [.ref (ad 7), .ref (ad 30), .ref (ad 46), .ref (ad 62), .ref (ad 63), .ref (ad 64), .ref (ad 65), .ref (ad 66), .ref (ad 67), .ref (ad 68), .ref (ad 69), .int sz, .int wd, .int sn, .int ln, .ref (ad 70), .int ic, .int ns]), ((ad 68), aJ E 3 kf), (hc, aI E cl fc)] (qV E (fun (_u : Unit) => True) (fun _ => [((ad 61), ob 9 [.ref (ad 7), .ref (ad 30), .ref (ad 46), .ref (ad 62), .ref (ad 63), .ref (ad 64), .ref (ad 65), .ref (ad 66), .ref (ad 67), .ref (ad 68), .ref (ad 69), .int sz, .int wd, .int sn, .int ln, .ref (ad 70), .int ic, .int ns]), ((ad 68), aJ E 3 (pkK fc n)), (hc, aI E cl fc)])) := by
  refine cM_of (by decide) (Nat.le_of_ble_eq_true rfl) ?_
  intro p e s m below meth c ls A F hA hS hP hD hK hZ hl
  obtain ⟨hx, hb, hr, hml, hown, hts, hlk, hin⟩ := id F
  have hown : s.vm.findClass RX9 = some m.cls := hown
  have hl : lv_has ls 6 [(0, .ref (ad 61)), (1, .ref hc), (2, .int (nI n))] := hl
  refine lv_aload_n hx hb dX9_pack_0 rfl (lv_at hl 0 rfl) ?_
  refine va_get (D := E.1) (ci := 9) (v := .ref (ad 68)) (C := RX9) (T := TX9) (N := 18) hx hb hts iX9 hown hK hP 0 rfl rfl 9 (by decide) (hts _ wdF_RX9_33) (fun _ h9 => h9) rfl dX9_pack_1 ?_
  refine lv_lconst (v := 0) hx hb dX9_pack_4 (by decide) ?_
  refine cV_go (wr := [((ad 61), ob 9 [.ref (ad 7), .ref (ad 30), .ref (ad 46), .ref (ad 62), .ref (ad 63), .ref (ad 64), .ref (ad 65), .ref (ad 66), .ref (ad 67), .ref (ad 68), .ref (ad 69), .int sz, .int wd, .int sn, .int ln, .ref (ad 70), .int ic, .int ns]), (hc, aI E cl fc)]) (cM_runS (As := [.ref (ad 68), .long 0]) (rest := []) F (c_J7_fill_d0a16 l E (ad 68) 3 kf 0 (by decide)) yy_J7_fill_d0a16 wdT_J7_fill_d0a16 wdM_RX9_131 hP hD hS hK hZ hA [1] rfl rfl rfl hl.1 rfl (Nat.le_of_ble_eq_true rfl) dX9_pack_5 ⟨by decide, by decide⟩ ⟨by decide, by decide⟩) hP hD hS hA [1] [0, 2] rfl rfl rfl (by decide) (fun u_492 H locs hw_491 hP hD hS => ?_)
  obtain ⟨gj, rfl⟩ : ∃ z, z = u_492 := ⟨_, rfl⟩
  try dsimp only at hw_491
  have hP : va_P E.1 vwCl [((ad 61), ob 9 [.ref (ad 7), .ref (ad 30), .ref (ad 46), .ref (ad 62), .ref (ad 63), .ref (ad 64), .ref (ad 65), .ref (ad 66), .ref (ad 67), .ref (ad 68), .ref (ad 69), .int sz, .int wd, .int sn, .int ln, .ref (ad 70), .int ic, .int ns]), (hc, aI E cl fc), ((ad 68), aJ E 3 gj)] H := hP
  have hD : va_D A [((ad 61), ob 9 [.ref (ad 7), .ref (ad 30), .ref (ad 46), .ref (ad 62), .ref (ad 63), .ref (ad 64), .ref (ad 65), .ref (ad 66), .ref (ad 67), .ref (ad 68), .ref (ad 69), .int sz, .int wd, .int sn, .int ln, .ref (ad 70), .int ic, .int ns]), (hc, aI E cl fc), ((ad 68), aJ E 3 gj)] := hD
  obtain ⟨hP, hD⟩ := cw_extJ (g := (pkK fc 0)) hP hD 2 rfl (fun j hj => (hw_491 j hj).trans rfl)
  have hP : va_P E.1 vwCl [((ad 61), ob 9 [.ref (ad 7), .ref (ad 30), .ref (ad 46), .ref (ad 62), .ref (ad 63), .ref (ad 64), .ref (ad 65), .ref (ad 66), .ref (ad 67), .ref (ad 68), .ref (ad 69), .int sz, .int wd, .int sn, .int ln, .ref (ad 70), .int ic, .int ns]), (hc, aI E cl fc), ((ad 68), aJ E 3 (pkK fc 0))] H := hP
  have hD : va_D A [((ad 61), ob 9 [.ref (ad 7), .ref (ad 30), .ref (ad 46), .ref (ad 62), .ref (ad 63), .ref (ad 64), .ref (ad 65), .ref (ad 66), .ref (ad 67), .ref (ad 68), .ref (ad 69), .int sz, .int wd, .int sn, .int ln, .ref (ad 70), .int ic, .int ns]), (hc, aI E cl fc), ((ad 68), aJ E 3 (pkK fc 0))] := hD
  refine lv_iconst (v := nI 0) hx hb dX9_pack_8 (by decide) ?_
  refine lv_istore_n (lv' := [(3, .int (nI 0)), (0, .ref (ad 61)), (1, .ref hc), (2, .int (nI n))]) hx hb dX9_pack_9 rfl hl (by decide) rfl (fun ls hl => ?_)
  have lp : ∀ (n_lp : Nat) (i : Nat) (hn : n + 1 ≤ i + n_lp) (hi : i ≤ n) (H : Heap) (locs : List Loc) (ls : Array Slot), va_P E.1 vwCl [((ad 61), ob 9 [.ref (ad 7), .ref (ad 30), .ref (ad 46), .ref (ad 62), .ref (ad 63), .ref (ad 64), .ref (ad 65), .ref (ad 66), .ref (ad 67), .ref (ad 68), .ref (ad 69), .int sz, .int wd, .int sn, .int ln, .ref (ad 70), .int ic, .int ns]), ((ad 68), aJ E 3 (pkK fc i)), (hc, aI E cl fc)] H → va_D A [((ad 61), ob 9 [.ref (ad 7), .ref (ad 30), .ref (ad 46), .ref (ad 62), .ref (ad 63), .ref (ad 64), .ref (ad 65), .ref (ad 66), .ref (ad 67), .ref (ad 68), .ref (ad 69), .int sz, .int wd, .int sn, .int ln, .ref (ad 70), .int ic, .int ns]), ((ad 68), aJ E 3 (pkK fc i)), (hc, aI E cl fc)] → va_S A s.heap H locs → lv_has ls 6 [(0, .ref (ad 61)), (1, .ref hc), (2, .int (nI n)), (3, .int (nI i))] → W p l e rm_c_X9_pack s m ([.ref (ad 61), .ref hc, .int (nI n)] : List Value).toArray below meth c H locs 0 0 (MQ below ((qV E (fun (_u : Unit) => True) (fun _ => [((ad 61), ob 9 [.ref (ad 7), .ref (ad 30), .ref (ad 46), .ref (ad 62), .ref (ad 63), .ref (ad 64), .ref (ad 65), .ref (ad 66), .ref (ad 67), .ref (ad 68), .ref (ad 69), .int sz, .int wd, .int sn, .int ln, .ref (ad 70), .int ic, .int ns]), ((ad 68), aJ E 3 (pkK fc n)), (hc, aI E cl fc)])) A) ([.ref (ad 61), .ref hc, .int (nI n)] : List Value).toArray s (rm_c_X9_pack).cells (rm_c_X9_pack).slots A) (F0 m 10 ls []) := by
    intro n_lp
    induction n_lp with
    | zero =>
      intro i hn hi
      exfalso; omega
    | succ n_lp ih_lp =>
      intro i hn hi H locs ls hP hD hS hl
      refine lv_iload_n hx hb dX9_pack_10 rfl (lv_at hl 3 rfl) ?_
      refine lv_iload_n hx hb dX9_pack_11 rfl (lv_at hl 2 rfl) ?_
      refine lv_icmp_ge (tgt := 74) hx hb dX9_pack_12 (by decide) (fun c1 => ?_) (fun c1 => ?_)
      · have c2 : n ≤ i := (nI_leI (by omega) (by omega)).mp c1
        obtain rfl : i = n := by omega
        exact cV_ret F hP hD hS hK () trivial [0, 1, 2] rfl rfl dX9_pack_74 (by decide) (by decide)
      · have c2 : i < n := Nat.lt_of_not_le (fun h => c1 (nI_le h (by omega)))
        refine lv_iload_n hx hb dX9_pack_15 rfl (lv_at hl 3 rfl) ?_
        refine lv_bipush (v := nI 16) hx hb dX9_pack_16 (by decide) ?_
        refine lv_icmp_ge (tgt := 74) hx hb dX9_pack_18 (by decide) (fun c_494 => absurd c_494 (fun h => absurd ((nI_leI (by decide) (by omega)).mp h) (by omega))) (fun c_494 => ?_)
        refine lv_iload_n hx hb dX9_pack_21 rfl (lv_at hl 3 rfl) ?_
        refine lv_aload_n hx hb dX9_pack_22 rfl (lv_at hl 1 rfl) ?_
        refine va_alen hx hb hK hP 2 1 rfl rfl (v := nI cl) rfl dX9_pack_23 ?_
        refine lv_icmp_ge (tgt := 74) hx hb dX9_pack_24 (by decide) (fun c_495 => absurd c_495 (fun h => absurd ((nI_leI (by omega) (by omega)).mp h) (by omega))) (fun c_495 => ?_)
        refine lv_aload_n hx hb dX9_pack_27 rfl (lv_at hl 1 rfl) ?_
        refine lv_iload_n hx hb dX9_pack_28 rfl (lv_at hl 3 rfl) ?_
        refine va_iald hx hb hK hP 2 1 rfl rfl (vp_in_nI (by omega) (by omega)) dX9_pack_29 ?_
        rw [nI_clamp (n := i) (by omega)]
        refine lv_bipush (v := nI 63) hx hb dX9_pack_30 (by decide) ?_
        refine lv_iand hx hb dX9_pack_32 ?_
        refine lv_aload_n hx hb dX9_pack_33 rfl (lv_at hl 1 rfl) ?_
        refine lv_iload_n hx hb dX9_pack_34 rfl (lv_at hl 3 rfl) ?_
        refine va_iald hx hb hK hP 2 1 rfl rfl (vp_in_nI (by omega) (by omega)) dX9_pack_35 ?_
        rw [nI_clamp (n := i) (by omega)]
        refine lv_iconst (v := nI 2) hx hb dX9_pack_36 (by decide) ?_
        refine lv_ishr hx hb dX9_pack_37 ?_
        refine lv_sipush (v := nI 960) hx hb dX9_pack_38 (by decide) ?_
        refine lv_iand hx hb dX9_pack_41 ?_
        refine lv_ior hx hb dX9_pack_42 ?_
        refine lv_i2l hx hb dX9_pack_43 rfl ?_
        refine lv_topl (fun x_496 ex_496 => ?_)
        refine lv_lstore (lv' := [(4, .long x_496), (0, .ref (ad 61)), (1, .ref hc), (2, .int (nI n)), (3, .int (nI i))]) hx hb dX9_pack_44 hl (by decide) rfl (fun ls hl => ?_)
        refine lv_aload_n hx hb dX9_pack_46 rfl (lv_at hl 1 rfl) ?_
        refine va_get (D := E.1) (ci := 9) (v := .ref (ad 68)) (C := RX9) (T := TX9) (N := 18) hx hb hts iX9 hown hK hP 0 rfl rfl 9 (by decide) (hts _ wdF_RX9_33) (fun _ h9 => h9) rfl dX9_pack_47 ?_
        refine lv_iload_n hx hb dX9_pack_50 rfl (lv_at hl 4 rfl) ?_
        refine lv_bipush (v := nI 6) hx hb dX9_pack_51 (by decide) ?_
        refine lv_idiv hx hb dX9_pack_53 (by decide) ?_
        rw [show ((nI i) / (nI 6) : Int32) = nI (i / 6) from pk_div (by omega) (by decide) (by decide)]
        refine lv_dup2_11 hx hb dX9_pack_54 rfl rfl ?_
        refine va_lald hx hb hK hP 1 2 rfl rfl (vp_in_nI (by omega) (by decide)) dX9_pack_55 ?_
        rw [nI_clamp (n := (i / 6)) (by omega)]
        refine lv_lload hx hb dX9_pack_56 (lv_at hl 0 rfl) ?_
        refine lv_bipush (v := nI 10) hx hb dX9_pack_58 (by decide) ?_
        refine lv_iload_n hx hb dX9_pack_60 rfl (lv_at hl 4 rfl) ?_
        refine lv_bipush (v := nI 6) hx hb dX9_pack_61 (by decide) ?_
        refine lv_irem hx hb dX9_pack_63 (by decide) ?_
        rw [show ((nI i) - (nI i) / (nI 6) * (nI 6) : Int32) = nI (i % 6) from pk_rem (by omega) (by decide) (by decide)]
        refine lv_imul hx hb dX9_pack_64 ?_
        rw [pk_mul 10 (i % 6)]
        refine lv_lshl hx hb dX9_pack_65 rfl ?_
        refine lv_lor hx hb dX9_pack_66 ?_
        refine va_last hx hb hK hP hD hS 1 2 rfl rfl (vp_in_nI (by omega) (by decide)) dX9_pack_67 (fun H locs hP hD hS => ?_)
        have hP : va_P E.1 vwCl [((ad 61), ob 9 [.ref (ad 7), .ref (ad 30), .ref (ad 46), .ref (ad 62), .ref (ad 63), .ref (ad 64), .ref (ad 65), .ref (ad 66), .ref (ad 67), .ref (ad 68), .ref (ad 69), .int sz, .int wd, .int sn, .int ln, .ref (ad 70), .int ic, .int ns]), ((ad 68), aJ E 3 (vp_updL (pkK fc i) (nI (i / 6)).toNatClampNeg (((pkK fc i) (i / 6)) ||| (x_496 <<< ((nI (10 * (i % 6))).toInt64 &&& 63))))), (hc, aI E cl fc)] H := hP
        have hD : va_D A [((ad 61), ob 9 [.ref (ad 7), .ref (ad 30), .ref (ad 46), .ref (ad 62), .ref (ad 63), .ref (ad 64), .ref (ad 65), .ref (ad 66), .ref (ad 67), .ref (ad 68), .ref (ad 69), .int sz, .int wd, .int sn, .int ln, .ref (ad 70), .int ic, .int ns]), ((ad 68), aJ E 3 (vp_updL (pkK fc i) (nI (i / 6)).toNatClampNeg (((pkK fc i) (i / 6)) ||| (x_496 <<< ((nI (10 * (i % 6))).toInt64 &&& 63))))), (hc, aI E cl fc)] := hD
        rw [nI_clamp (n := (i / 6)) (by omega)] at hP hD
        rw [show vp_updL (pkK fc i) (i / 6) (((pkK fc i) (i / 6)) ||| (x_496 <<< ((nI (10 * (i % 6))).toInt64 &&& 63))) = pkK fc (i + 1) from by rw [ex_496]; rfl] at hP hD
        refine lv_iinc (v := nI (i + 1)) (lv' := [(3, .int (nI (i + 1))), (4, .long x_496), (0, .ref (ad 61)), (1, .ref hc), (2, .int (nI n))]) hx hb dX9_pack_68 hl (k := 4) rfl (nI_1 i) (by decide) rfl (fun ls hl => ?_)
        refine lv_goto (tgt := 10) hx hb dX9_pack_71 (by decide) ?_
        exact ih_lp (i + 1) (by omega) (by omega) _ _ _ hP hD hS (lv_sub hl [2, 3, 4, 0] rfl)
  exact lp (n + 1) 0 (by omega) (by omega) _ _ _ (hP.sub [0, 2, 1] rfl) (hD.sub [0, 2, 1] rfl rfl) hS (lv_sub hl [1, 2, 3, 0] rfl)
theorem yy_X9_pack : cY yX9_pack cX9_pack 6 none 2 := ⟨wdK_X9_pack, wdZ_RX9, by decide +kernel⟩
theorem yi_X9_pack : cYi yX9_pack := ⟨wdN_X9_pack, wdS_X9_pack⟩
abbrev rm_z31_X9_forget : Room := { frames := 0, cells := 0, slots := 0, locals := 0 }
set_option maxHeartbeats 4000000 in
set_option maxRecDepth 100000 in
theorem z31_X9_forget (l : Launch) (E : cE) (h0 : Nat) (ad : Nat → Nat) (gx : Nat → Int32) (gy : Nat → Int32) (gf : Nat → Int32) (v2 : Int32) (gt : Nat → Int32) (gh : Nat → Int32) (gc : Nat → Int32) (dp : Nat) (hw1 : flo (stC 0) (2 * 4) gx gy gf) (hw3 : ∀ d, d < 2 * 4 → gt d = 0) (hw4 : ∀ d, d < 2 * 4 → gh d = nI (stC 0 d)) (hw5 : ∀ d, d < 2 * 4 → gc d = nI (stC 0 d)) (hdp : dp ≤ 12) : cM l E yX9_forget cX9_forget 1 none rm_z31_X9_forget [.ref (ad 61)] [(h0, ob 11 [.ref (ad 0), .ref (ad 7), .ref (ad 28), .ref (ad 30), .ref (ad 76), .ref (ad 46), .ref (ad 55), .ref (ad 57), .ref (ad 59), .ref (ad 61), .ref (ad 80), .int 0, .int 0, .int 0, .int (-1), .int (-1), .int (-1)]), ((ad 61), ob 9 [.ref (ad 7), .ref (ad 30), .ref (ad 46), .ref (ad 62), .ref (ad 63), .ref (ad 64), .ref (ad 65), .ref (ad 66), .ref (ad 67), .ref (ad 68), .ref (ad 69), .int 0, .int 0, .int 0, .int (-1), .ref (ad 70), .int 0, .int 0]), ((ad 63), aS E 4096 (fun _ => 0)), ((ad 65), aI E 15 (fun _ => 0)), ((ad 69), aI E 16 (fun _ => 0)), ((ad 68), aJ E 3 (fun _ => 0)), ((ad 62), aJ E 6000 (fun _ => 0)), ((ad 66), aJ E 2000 (fun _ => 0)), ((ad 67), aI E 2000 (fun _ => 0)), ((ad 7), ob 0 [.ref (ad 8), .ref (ad 10), .ref (ad 12), .ref (ad 14), .ref (ad 15), .ref (ad 16), .ref (ad 17), .ref (ad 18), .ref (ad 19), .ref (ad 20), .ref (ad 21), .ref (ad 22), .ref (ad 23), .ref (ad 24), .ref (ad 25), .ref (ad 26), .int 0, .ref (ad 27), .int 0, .int 0]), ((ad 76), ob 3 [.ref (ad 77), .ref (ad 78), .ref (ad 79), .ref (ad 71), .ref (ad 72), .ref (ad 73), .ref (ad 74), .ref (ad 75), .int (nI (2 * 4)), .int v2]), ((ad 77), aI E 64 gx), ((ad 78), aI E 64 gy), ((ad 79), aI E 64 gf), ((ad 80), aI E 64 gc)] (qV E (fun (_u : Unit) => True) (fun _ => [(h0, ob 11 [.ref (ad 0), .ref (ad 7), .ref (ad 28), .ref (ad 30), .ref (ad 76), .ref (ad 46), .ref (ad 55), .ref (ad 57), .ref (ad 59), .ref (ad 61), .ref (ad 80), .int 0, .int 0, .int 0, .int (-1), .int (-1), .int (-1)]), ((ad 61), ob 9 [.ref (ad 7), .ref (ad 30), .ref (ad 46), .ref (ad 62), .ref (ad 63), .ref (ad 64), .ref (ad 65), .ref (ad 66), .ref (ad 67), .ref (ad 68), .ref (ad 69), .int 0, .int 0, .int 0, .int (-1), .ref (ad 70), .int (nI 0), .int (nI 0)]), ((ad 63), aS E 4096 (fun _ => 0)), ((ad 65), aI E 15 (fun _ => 0)), ((ad 69), aI E 16 (fun _ => 0)), ((ad 68), aJ E 3 (fun _ => 0)), ((ad 62), aJ E 6000 (fun _ => 0)), ((ad 66), aJ E 2000 (fun _ => 0)), ((ad 67), aI E 2000 (fun _ => 0)), ((ad 7), ob 0 [.ref (ad 8), .ref (ad 10), .ref (ad 12), .ref (ad 14), .ref (ad 15), .ref (ad 16), .ref (ad 17), .ref (ad 18), .ref (ad 19), .ref (ad 20), .ref (ad 21), .ref (ad 22), .ref (ad 23), .ref (ad 24), .ref (ad 25), .ref (ad 26), .int 0, .ref (ad 27), .int 0, .int 0]), ((ad 76), ob 3 [.ref (ad 77), .ref (ad 78), .ref (ad 79), .ref (ad 71), .ref (ad 72), .ref (ad 73), .ref (ad 74), .ref (ad 75), .int (nI (2 * 4)), .int v2]), ((ad 77), aI E 64 gx), ((ad 78), aI E 64 gy), ((ad 79), aI E 64 gf), ((ad 80), aI E 64 gc)])) := by
  refine cM_of (by decide) (Nat.le_of_ble_eq_true rfl) ?_
  intro p e s m below meth c ls A F hA hS hP hD hK hZ hl
  obtain ⟨hx, hb, hr, hml, hown, hts, hlk, hin⟩ := id F
  have hown : s.vm.findClass RX9 = some m.cls := hown
  have hl : lv_has ls 1 [(0, .ref (ad 61))] := hl
  refine lv_aload_n hx hb dX9_forget_0 rfl (lv_at hl 0 rfl) ?_
  refine lv_iconst (v := (-1)) hx hb dX9_forget_1 (by decide) ?_
  refine va_put (D := E.1) (ci := 9) (v := .int (-1)) (ty := .int) (C := RX9) (T := TX9) (N := 18) hx hb hts iX9 tyX9 tyX9_ok nmX9 hown hK hP hD hS 1 rfl rfl 14 (by decide) (hts _ wdF_RX9_39) (fun _ h9 => h9) rfl (by decide +kernel) rfl rfl (Nat.le_of_ble_eq_true rfl) dX9_forget_2 (fun H locs hP hD hS => ?_)
  have hP : va_P E.1 vwCl [(h0, ob 11 [.ref (ad 0), .ref (ad 7), .ref (ad 28), .ref (ad 30), .ref (ad 76), .ref (ad 46), .ref (ad 55), .ref (ad 57), .ref (ad 59), .ref (ad 61), .ref (ad 80), .int 0, .int 0, .int 0, .int (-1), .int (-1), .int (-1)]), ((ad 61), ob 9 [.ref (ad 7), .ref (ad 30), .ref (ad 46), .ref (ad 62), .ref (ad 63), .ref (ad 64), .ref (ad 65), .ref (ad 66), .ref (ad 67), .ref (ad 68), .ref (ad 69), .int 0, .int 0, .int 0, .int (-1), .ref (ad 70), .int 0, .int 0]), ((ad 63), aS E 4096 (fun _ => 0)), ((ad 65), aI E 15 (fun _ => 0)), ((ad 69), aI E 16 (fun _ => 0)), ((ad 68), aJ E 3 (fun _ => 0)), ((ad 62), aJ E 6000 (fun _ => 0)), ((ad 66), aJ E 2000 (fun _ => 0)), ((ad 67), aI E 2000 (fun _ => 0)), ((ad 7), ob 0 [.ref (ad 8), .ref (ad 10), .ref (ad 12), .ref (ad 14), .ref (ad 15), .ref (ad 16), .ref (ad 17), .ref (ad 18), .ref (ad 19), .ref (ad 20), .ref (ad 21), .ref (ad 22), .ref (ad 23), .ref (ad 24), .ref (ad 25), .ref (ad 26), .int 0, .ref (ad 27), .int 0, .int 0]), ((ad 76), ob 3 [.ref (ad 77), .ref (ad 78), .ref (ad 79), .ref (ad 71), .ref (ad 72), .ref (ad 73), .ref (ad 74), .ref (ad 75), .int (nI (2 * 4)), .int v2]), ((ad 77), aI E 64 gx), ((ad 78), aI E 64 gy), ((ad 79), aI E 64 gf), ((ad 80), aI E 64 gc)] H := hP
  have hD : va_D A [(h0, ob 11 [.ref (ad 0), .ref (ad 7), .ref (ad 28), .ref (ad 30), .ref (ad 76), .ref (ad 46), .ref (ad 55), .ref (ad 57), .ref (ad 59), .ref (ad 61), .ref (ad 80), .int 0, .int 0, .int 0, .int (-1), .int (-1), .int (-1)]), ((ad 61), ob 9 [.ref (ad 7), .ref (ad 30), .ref (ad 46), .ref (ad 62), .ref (ad 63), .ref (ad 64), .ref (ad 65), .ref (ad 66), .ref (ad 67), .ref (ad 68), .ref (ad 69), .int 0, .int 0, .int 0, .int (-1), .ref (ad 70), .int 0, .int 0]), ((ad 63), aS E 4096 (fun _ => 0)), ((ad 65), aI E 15 (fun _ => 0)), ((ad 69), aI E 16 (fun _ => 0)), ((ad 68), aJ E 3 (fun _ => 0)), ((ad 62), aJ E 6000 (fun _ => 0)), ((ad 66), aJ E 2000 (fun _ => 0)), ((ad 67), aI E 2000 (fun _ => 0)), ((ad 7), ob 0 [.ref (ad 8), .ref (ad 10), .ref (ad 12), .ref (ad 14), .ref (ad 15), .ref (ad 16), .ref (ad 17), .ref (ad 18), .ref (ad 19), .ref (ad 20), .ref (ad 21), .ref (ad 22), .ref (ad 23), .ref (ad 24), .ref (ad 25), .ref (ad 26), .int 0, .ref (ad 27), .int 0, .int 0]), ((ad 76), ob 3 [.ref (ad 77), .ref (ad 78), .ref (ad 79), .ref (ad 71), .ref (ad 72), .ref (ad 73), .ref (ad 74), .ref (ad 75), .int (nI (2 * 4)), .int v2]), ((ad 77), aI E 64 gx), ((ad 78), aI E 64 gy), ((ad 79), aI E 64 gf), ((ad 80), aI E 64 gc)] := hD
  refine lv_aload_n hx hb dX9_forget_5 rfl (lv_at hl 0 rfl) ?_
  refine lv_iconst (v := nI 0) hx hb dX9_forget_6 (by decide) ?_
  refine va_put (D := E.1) (ci := 9) (v := .int (nI 0)) (ty := .boolean) (C := RX9) (T := TX9) (N := 18) hx hb hts iX9 tyX9 tyX9_ok nmX9 hown hK hP hD hS 1 rfl rfl 16 (by decide) (hts _ wdF_RX9_58) (fun _ h9 => h9) rfl (by decide +kernel) (by decide) (by decide) (Nat.le_of_ble_eq_true rfl) dX9_forget_7 (fun H locs hP hD hS => ?_)
  have hP : va_P E.1 vwCl [(h0, ob 11 [.ref (ad 0), .ref (ad 7), .ref (ad 28), .ref (ad 30), .ref (ad 76), .ref (ad 46), .ref (ad 55), .ref (ad 57), .ref (ad 59), .ref (ad 61), .ref (ad 80), .int 0, .int 0, .int 0, .int (-1), .int (-1), .int (-1)]), ((ad 61), ob 9 [.ref (ad 7), .ref (ad 30), .ref (ad 46), .ref (ad 62), .ref (ad 63), .ref (ad 64), .ref (ad 65), .ref (ad 66), .ref (ad 67), .ref (ad 68), .ref (ad 69), .int 0, .int 0, .int 0, .int (-1), .ref (ad 70), .int (nI 0), .int 0]), ((ad 63), aS E 4096 (fun _ => 0)), ((ad 65), aI E 15 (fun _ => 0)), ((ad 69), aI E 16 (fun _ => 0)), ((ad 68), aJ E 3 (fun _ => 0)), ((ad 62), aJ E 6000 (fun _ => 0)), ((ad 66), aJ E 2000 (fun _ => 0)), ((ad 67), aI E 2000 (fun _ => 0)), ((ad 7), ob 0 [.ref (ad 8), .ref (ad 10), .ref (ad 12), .ref (ad 14), .ref (ad 15), .ref (ad 16), .ref (ad 17), .ref (ad 18), .ref (ad 19), .ref (ad 20), .ref (ad 21), .ref (ad 22), .ref (ad 23), .ref (ad 24), .ref (ad 25), .ref (ad 26), .int 0, .ref (ad 27), .int 0, .int 0]), ((ad 76), ob 3 [.ref (ad 77), .ref (ad 78), .ref (ad 79), .ref (ad 71), .ref (ad 72), .ref (ad 73), .ref (ad 74), .ref (ad 75), .int (nI (2 * 4)), .int v2]), ((ad 77), aI E 64 gx), ((ad 78), aI E 64 gy), ((ad 79), aI E 64 gf), ((ad 80), aI E 64 gc)] H := hP
  have hD : va_D A [(h0, ob 11 [.ref (ad 0), .ref (ad 7), .ref (ad 28), .ref (ad 30), .ref (ad 76), .ref (ad 46), .ref (ad 55), .ref (ad 57), .ref (ad 59), .ref (ad 61), .ref (ad 80), .int 0, .int 0, .int 0, .int (-1), .int (-1), .int (-1)]), ((ad 61), ob 9 [.ref (ad 7), .ref (ad 30), .ref (ad 46), .ref (ad 62), .ref (ad 63), .ref (ad 64), .ref (ad 65), .ref (ad 66), .ref (ad 67), .ref (ad 68), .ref (ad 69), .int 0, .int 0, .int 0, .int (-1), .ref (ad 70), .int (nI 0), .int 0]), ((ad 63), aS E 4096 (fun _ => 0)), ((ad 65), aI E 15 (fun _ => 0)), ((ad 69), aI E 16 (fun _ => 0)), ((ad 68), aJ E 3 (fun _ => 0)), ((ad 62), aJ E 6000 (fun _ => 0)), ((ad 66), aJ E 2000 (fun _ => 0)), ((ad 67), aI E 2000 (fun _ => 0)), ((ad 7), ob 0 [.ref (ad 8), .ref (ad 10), .ref (ad 12), .ref (ad 14), .ref (ad 15), .ref (ad 16), .ref (ad 17), .ref (ad 18), .ref (ad 19), .ref (ad 20), .ref (ad 21), .ref (ad 22), .ref (ad 23), .ref (ad 24), .ref (ad 25), .ref (ad 26), .int 0, .ref (ad 27), .int 0, .int 0]), ((ad 76), ob 3 [.ref (ad 77), .ref (ad 78), .ref (ad 79), .ref (ad 71), .ref (ad 72), .ref (ad 73), .ref (ad 74), .ref (ad 75), .int (nI (2 * 4)), .int v2]), ((ad 77), aI E 64 gx), ((ad 78), aI E 64 gy), ((ad 79), aI E 64 gf), ((ad 80), aI E 64 gc)] := hD
  refine lv_aload_n hx hb dX9_forget_10 rfl (lv_at hl 0 rfl) ?_
  refine lv_iconst (v := nI 0) hx hb dX9_forget_11 (by decide) ?_
  refine va_put (D := E.1) (ci := 9) (v := .int (nI 0)) (ty := .int) (C := RX9) (T := TX9) (N := 18) hx hb hts iX9 tyX9 tyX9_ok nmX9 hown hK hP hD hS 1 rfl rfl 17 (by decide) (hts _ wdF_RX9_62) (fun _ h9 => h9) rfl (by decide +kernel) rfl rfl (Nat.le_of_ble_eq_true rfl) dX9_forget_12 (fun H locs hP hD hS => ?_)
  have hP : va_P E.1 vwCl [(h0, ob 11 [.ref (ad 0), .ref (ad 7), .ref (ad 28), .ref (ad 30), .ref (ad 76), .ref (ad 46), .ref (ad 55), .ref (ad 57), .ref (ad 59), .ref (ad 61), .ref (ad 80), .int 0, .int 0, .int 0, .int (-1), .int (-1), .int (-1)]), ((ad 61), ob 9 [.ref (ad 7), .ref (ad 30), .ref (ad 46), .ref (ad 62), .ref (ad 63), .ref (ad 64), .ref (ad 65), .ref (ad 66), .ref (ad 67), .ref (ad 68), .ref (ad 69), .int 0, .int 0, .int 0, .int (-1), .ref (ad 70), .int (nI 0), .int (nI 0)]), ((ad 63), aS E 4096 (fun _ => 0)), ((ad 65), aI E 15 (fun _ => 0)), ((ad 69), aI E 16 (fun _ => 0)), ((ad 68), aJ E 3 (fun _ => 0)), ((ad 62), aJ E 6000 (fun _ => 0)), ((ad 66), aJ E 2000 (fun _ => 0)), ((ad 67), aI E 2000 (fun _ => 0)), ((ad 7), ob 0 [.ref (ad 8), .ref (ad 10), .ref (ad 12), .ref (ad 14), .ref (ad 15), .ref (ad 16), .ref (ad 17), .ref (ad 18), .ref (ad 19), .ref (ad 20), .ref (ad 21), .ref (ad 22), .ref (ad 23), .ref (ad 24), .ref (ad 25), .ref (ad 26), .int 0, .ref (ad 27), .int 0, .int 0]), ((ad 76), ob 3 [.ref (ad 77), .ref (ad 78), .ref (ad 79), .ref (ad 71), .ref (ad 72), .ref (ad 73), .ref (ad 74), .ref (ad 75), .int (nI (2 * 4)), .int v2]), ((ad 77), aI E 64 gx), ((ad 78), aI E 64 gy), ((ad 79), aI E 64 gf), ((ad 80), aI E 64 gc)] H := hP
  have hD : va_D A [(h0, ob 11 [.ref (ad 0), .ref (ad 7), .ref (ad 28), .ref (ad 30), .ref (ad 76), .ref (ad 46), .ref (ad 55), .ref (ad 57), .ref (ad 59), .ref (ad 61), .ref (ad 80), .int 0, .int 0, .int 0, .int (-1), .int (-1), .int (-1)]), ((ad 61), ob 9 [.ref (ad 7), .ref (ad 30), .ref (ad 46), .ref (ad 62), .ref (ad 63), .ref (ad 64), .ref (ad 65), .ref (ad 66), .ref (ad 67), .ref (ad 68), .ref (ad 69), .int 0, .int 0, .int 0, .int (-1), .ref (ad 70), .int (nI 0), .int (nI 0)]), ((ad 63), aS E 4096 (fun _ => 0)), ((ad 65), aI E 15 (fun _ => 0)), ((ad 69), aI E 16 (fun _ => 0)), ((ad 68), aJ E 3 (fun _ => 0)), ((ad 62), aJ E 6000 (fun _ => 0)), ((ad 66), aJ E 2000 (fun _ => 0)), ((ad 67), aI E 2000 (fun _ => 0)), ((ad 7), ob 0 [.ref (ad 8), .ref (ad 10), .ref (ad 12), .ref (ad 14), .ref (ad 15), .ref (ad 16), .ref (ad 17), .ref (ad 18), .ref (ad 19), .ref (ad 20), .ref (ad 21), .ref (ad 22), .ref (ad 23), .ref (ad 24), .ref (ad 25), .ref (ad 26), .int 0, .ref (ad 27), .int 0, .int 0]), ((ad 76), ob 3 [.ref (ad 77), .ref (ad 78), .ref (ad 79), .ref (ad 71), .ref (ad 72), .ref (ad 73), .ref (ad 74), .ref (ad 75), .int (nI (2 * 4)), .int v2]), ((ad 77), aI E 64 gx), ((ad 78), aI E 64 gy), ((ad 79), aI E 64 gf), ((ad 80), aI E 64 gc)] := hD
  exact cV_ret F hP hD hS hK () trivial [0, 1, 2, 3, 4, 5, 6, 7, 8, 9, 10, 11, 12, 13, 14] rfl rfl dX9_forget_15 (by decide) (by decide)
theorem dX9_placeOfKey_0 : decode cX9_placeOfKey 0 = .ok (.aload_n 0, 1) := by decide +kernel
theorem dX9_placeOfKey_1 : decode cX9_placeOfKey 1 = .ok (.getfield 33, 3) := by decide +kernel
theorem dX9_placeOfKey_4 : decode cX9_placeOfKey 4 = .ok (.iconst 0, 1) := by decide +kernel
theorem dX9_placeOfKey_5 : decode cX9_placeOfKey 5 = .ok (.laload, 1) := by decide +kernel
theorem dX9_placeOfKey_6 : decode cX9_placeOfKey 6 = .ok (.ldc2_w 134, 3) := by decide +kernel
theorem dX9_placeOfKey_9 : decode cX9_placeOfKey 9 = .ok (.lmul, 1) := by decide +kernel
theorem dX9_placeOfKey_10 : decode cX9_placeOfKey 10 = .ok (.aload_n 0, 1) := by decide +kernel
theorem dX9_placeOfKey_11 : decode cX9_placeOfKey 11 = .ok (.getfield 33, 3) := by decide +kernel
theorem dX9_placeOfKey_14 : decode cX9_placeOfKey 14 = .ok (.iconst 1, 1) := by decide +kernel
theorem dX9_placeOfKey_15 : decode cX9_placeOfKey 15 = .ok (.laload, 1) := by decide +kernel
theorem dX9_placeOfKey_16 : decode cX9_placeOfKey 16 = .ok (.ladd, 1) := by decide +kernel
theorem dX9_placeOfKey_17 : decode cX9_placeOfKey 17 = .ok (.ldc2_w 134, 3) := by decide +kernel
theorem dX9_placeOfKey_20 : decode cX9_placeOfKey 20 = .ok (.lmul, 1) := by decide +kernel
theorem dX9_placeOfKey_21 : decode cX9_placeOfKey 21 = .ok (.aload_n 0, 1) := by decide +kernel
theorem dX9_placeOfKey_22 : decode cX9_placeOfKey 22 = .ok (.getfield 33, 3) := by decide +kernel
theorem dX9_placeOfKey_25 : decode cX9_placeOfKey 25 = .ok (.iconst 2, 1) := by decide +kernel
theorem dX9_placeOfKey_26 : decode cX9_placeOfKey 26 = .ok (.laload, 1) := by decide +kernel
theorem dX9_placeOfKey_27 : decode cX9_placeOfKey 27 = .ok (.ladd, 1) := by decide +kernel
theorem dX9_placeOfKey_28 : decode cX9_placeOfKey 28 = .ok (.lstore_n 1, 1) := by decide +kernel
theorem dX9_placeOfKey_29 : decode cX9_placeOfKey 29 = .ok (.lload_n 1, 1) := by decide +kernel
theorem dX9_placeOfKey_30 : decode cX9_placeOfKey 30 = .ok (.lload_n 1, 1) := by decide +kernel
theorem dX9_placeOfKey_31 : decode cX9_placeOfKey 31 = .ok (.bipush 29, 2) := by decide +kernel
theorem dX9_placeOfKey_33 : decode cX9_placeOfKey 33 = .ok (.lushr, 1) := by decide +kernel
theorem dX9_placeOfKey_34 : decode cX9_placeOfKey 34 = .ok (.lxor, 1) := by decide +kernel
theorem dX9_placeOfKey_35 : decode cX9_placeOfKey 35 = .ok (.lstore_n 1, 1) := by decide +kernel
theorem dX9_placeOfKey_36 : decode cX9_placeOfKey 36 = .ok (.lload_n 1, 1) := by decide +kernel
theorem dX9_placeOfKey_37 : decode cX9_placeOfKey 37 = .ok (.ldc2_w 136, 3) := by decide +kernel
theorem dX9_placeOfKey_40 : decode cX9_placeOfKey 40 = .ok (.lmul, 1) := by decide +kernel
theorem dX9_placeOfKey_41 : decode cX9_placeOfKey 41 = .ok (.bipush 52, 2) := by decide +kernel
theorem dX9_placeOfKey_43 : decode cX9_placeOfKey 43 = .ok (.lushr, 1) := by decide +kernel
theorem dX9_placeOfKey_44 : decode cX9_placeOfKey 44 = .ok (.l2i, 1) := by decide +kernel
theorem dX9_placeOfKey_45 : decode cX9_placeOfKey 45 = .ok (.istore_n 3, 1) := by decide +kernel
theorem dX9_placeOfKey_46 : decode cX9_placeOfKey 46 = .ok (.iconst 0, 1) := by decide +kernel
theorem dX9_placeOfKey_47 : decode cX9_placeOfKey 47 = .ok (.istore 4, 2) := by decide +kernel
theorem dX9_placeOfKey_49 : decode cX9_placeOfKey 49 = .ok (.iload 4, 2) := by decide +kernel
theorem dX9_placeOfKey_51 : decode cX9_placeOfKey 51 = .ok (.sipush 4096, 3) := by decide +kernel
theorem dX9_placeOfKey_54 : decode cX9_placeOfKey 54 = .ok (.if_icmp .ge 99, 3) := by decide +kernel
theorem dX9_placeOfKey_57 : decode cX9_placeOfKey 57 = .ok (.aload_n 0, 1) := by decide +kernel
theorem dX9_placeOfKey_58 : decode cX9_placeOfKey 58 = .ok (.getfield 15, 3) := by decide +kernel
theorem dX9_placeOfKey_61 : decode cX9_placeOfKey 61 = .ok (.iload_n 3, 1) := by decide +kernel
theorem dX9_placeOfKey_62 : decode cX9_placeOfKey 62 = .ok (.saload, 1) := by decide +kernel
theorem dX9_placeOfKey_63 : decode cX9_placeOfKey 63 = .ok (.ifCond .eq 90, 3) := by decide +kernel
theorem dX9_placeOfKey_66 : decode cX9_placeOfKey 66 = .ok (.aload_n 0, 1) := by decide +kernel
theorem dX9_placeOfKey_67 : decode cX9_placeOfKey 67 = .ok (.getfield 15, 3) := by decide +kernel
theorem dX9_placeOfKey_70 : decode cX9_placeOfKey 70 = .ok (.iload_n 3, 1) := by decide +kernel
theorem dX9_placeOfKey_71 : decode cX9_placeOfKey 71 = .ok (.saload, 1) := by decide +kernel
theorem dX9_placeOfKey_72 : decode cX9_placeOfKey 72 = .ok (.iconst 1, 1) := by decide +kernel
theorem dX9_placeOfKey_73 : decode cX9_placeOfKey 73 = .ok (.isub, 1) := by decide +kernel
theorem dX9_placeOfKey_74 : decode cX9_placeOfKey 74 = .ok (.istore 5, 2) := by decide +kernel
theorem dX9_placeOfKey_76 : decode cX9_placeOfKey 76 = .ok (.aload_n 0, 1) := by decide +kernel
theorem dX9_placeOfKey_77 : decode cX9_placeOfKey 77 = .ok (.getfield 11, 3) := by decide +kernel
theorem dX9_placeOfKey_80 : decode cX9_placeOfKey 80 = .ok (.iconst 3, 1) := by decide +kernel
theorem dX9_placeOfKey_81 : decode cX9_placeOfKey 81 = .ok (.iload 5, 2) := by decide +kernel
theorem dX9_placeOfKey_83 : decode cX9_placeOfKey 83 = .ok (.imul, 1) := by decide +kernel
theorem dX9_placeOfKey_84 : decode cX9_placeOfKey 84 = .ok (.laload, 1) := by decide +kernel
theorem dX9_placeOfKey_85 : decode cX9_placeOfKey 85 = .ok (.aload_n 0, 1) := by decide +kernel
theorem dX9_placeOfKey_86 : decode cX9_placeOfKey 86 = .ok (.getfield 33, 3) := by decide +kernel
theorem dX9_placeOfKey_89 : decode cX9_placeOfKey 89 = .ok (.iconst 0, 1) := by decide +kernel
theorem dX9_placeOfKey_90 : decode cX9_placeOfKey 90 = .ok (.laload, 1) := by decide +kernel
theorem dX9_placeOfKey_91 : decode cX9_placeOfKey 91 = .ok (.lcmp, 1) := by decide +kernel
theorem dX9_placeOfKey_92 : decode cX9_placeOfKey 92 = .ok (.ifCond .ne 47, 3) := by decide +kernel
theorem dX9_placeOfKey_95 : decode cX9_placeOfKey 95 = .ok (.aload_n 0, 1) := by decide +kernel
theorem dX9_placeOfKey_96 : decode cX9_placeOfKey 96 = .ok (.getfield 11, 3) := by decide +kernel
theorem dX9_placeOfKey_99 : decode cX9_placeOfKey 99 = .ok (.iconst 3, 1) := by decide +kernel
theorem dX9_placeOfKey_100 : decode cX9_placeOfKey 100 = .ok (.iload 5, 2) := by decide +kernel
theorem dX9_placeOfKey_102 : decode cX9_placeOfKey 102 = .ok (.imul, 1) := by decide +kernel
theorem dX9_placeOfKey_103 : decode cX9_placeOfKey 103 = .ok (.iconst 1, 1) := by decide +kernel
theorem dX9_placeOfKey_104 : decode cX9_placeOfKey 104 = .ok (.iadd, 1) := by decide +kernel
theorem dX9_placeOfKey_105 : decode cX9_placeOfKey 105 = .ok (.laload, 1) := by decide +kernel
theorem dX9_placeOfKey_106 : decode cX9_placeOfKey 106 = .ok (.aload_n 0, 1) := by decide +kernel
theorem dX9_placeOfKey_107 : decode cX9_placeOfKey 107 = .ok (.getfield 33, 3) := by decide +kernel
theorem dX9_placeOfKey_110 : decode cX9_placeOfKey 110 = .ok (.iconst 1, 1) := by decide +kernel
theorem dX9_placeOfKey_111 : decode cX9_placeOfKey 111 = .ok (.laload, 1) := by decide +kernel
theorem dX9_placeOfKey_112 : decode cX9_placeOfKey 112 = .ok (.lcmp, 1) := by decide +kernel
theorem dX9_placeOfKey_113 : decode cX9_placeOfKey 113 = .ok (.ifCond .ne 26, 3) := by decide +kernel
theorem dX9_placeOfKey_116 : decode cX9_placeOfKey 116 = .ok (.aload_n 0, 1) := by decide +kernel
theorem dX9_placeOfKey_117 : decode cX9_placeOfKey 117 = .ok (.getfield 11, 3) := by decide +kernel
theorem dX9_placeOfKey_120 : decode cX9_placeOfKey 120 = .ok (.iconst 3, 1) := by decide +kernel
theorem dX9_placeOfKey_121 : decode cX9_placeOfKey 121 = .ok (.iload 5, 2) := by decide +kernel
theorem dX9_placeOfKey_123 : decode cX9_placeOfKey 123 = .ok (.imul, 1) := by decide +kernel
theorem dX9_placeOfKey_124 : decode cX9_placeOfKey 124 = .ok (.iconst 2, 1) := by decide +kernel
theorem dX9_placeOfKey_125 : decode cX9_placeOfKey 125 = .ok (.iadd, 1) := by decide +kernel
theorem dX9_placeOfKey_126 : decode cX9_placeOfKey 126 = .ok (.laload, 1) := by decide +kernel
theorem dX9_placeOfKey_127 : decode cX9_placeOfKey 127 = .ok (.aload_n 0, 1) := by decide +kernel
theorem dX9_placeOfKey_128 : decode cX9_placeOfKey 128 = .ok (.getfield 33, 3) := by decide +kernel
theorem dX9_placeOfKey_131 : decode cX9_placeOfKey 131 = .ok (.iconst 2, 1) := by decide +kernel
theorem dX9_placeOfKey_132 : decode cX9_placeOfKey 132 = .ok (.laload, 1) := by decide +kernel
theorem dX9_placeOfKey_133 : decode cX9_placeOfKey 133 = .ok (.lcmp, 1) := by decide +kernel
theorem dX9_placeOfKey_134 : decode cX9_placeOfKey 134 = .ok (.ifCond .ne 5, 3) := by decide +kernel
theorem dX9_placeOfKey_137 : decode cX9_placeOfKey 137 = .ok (.iload_n 3, 1) := by decide +kernel
theorem dX9_placeOfKey_138 : decode cX9_placeOfKey 138 = .ok (.ireturn, 1) := by decide +kernel
theorem dX9_placeOfKey_139 : decode cX9_placeOfKey 139 = .ok (.iload_n 3, 1) := by decide +kernel
theorem dX9_placeOfKey_140 : decode cX9_placeOfKey 140 = .ok (.iconst 1, 1) := by decide +kernel
theorem dX9_placeOfKey_141 : decode cX9_placeOfKey 141 = .ok (.iadd, 1) := by decide +kernel
theorem dX9_placeOfKey_142 : decode cX9_placeOfKey 142 = .ok (.sipush 4095, 3) := by decide +kernel
theorem dX9_placeOfKey_145 : decode cX9_placeOfKey 145 = .ok (.iand, 1) := by decide +kernel
theorem dX9_placeOfKey_146 : decode cX9_placeOfKey 146 = .ok (.istore_n 3, 1) := by decide +kernel
theorem dX9_placeOfKey_147 : decode cX9_placeOfKey 147 = .ok (.iinc 4 1, 3) := by decide +kernel
theorem dX9_placeOfKey_150 : decode cX9_placeOfKey 150 = .ok (.goto (-101), 3) := by decide +kernel
theorem dX9_placeOfKey_153 : decode cX9_placeOfKey 153 = .ok (.iload_n 3, 1) := by decide +kernel
theorem dX9_placeOfKey_154 : decode cX9_placeOfKey 154 = .ok (.ireturn, 1) := by decide +kernel
abbrev rm_z33_X9_placeOfKey : Room := { frames := 0, cells := 0, slots := 0, locals := 0 }
set_option maxHeartbeats 4000000 in
set_option maxRecDepth 100000 in
theorem z33_X9_placeOfKey (l : Launch) (E : cE) (h0 : Nat) (ad : Nat → Nat) (gx : Nat → Int32) (gy : Nat → Int32) (gf : Nat → Int32) (v2 : Int32) (gt : Nat → Int32) (gh : Nat → Int32) (gc : Nat → Int32) (dp : Nat) (gk : Nat → Int32) (hw1 : flo (stC 0) (2 * 4) gx gy gf) (hw3 : ∀ d, d < 2 * 4 → gt d = 0) (hw4 : ∀ d, d < 2 * 4 → gh d = nI (stC 0 d)) (hw5 : ∀ d, d < 2 * 4 → gc d = nI (stC 0 d)) (hdp : dp ≤ 12) : cM l E yX9_placeOfKey cX9_placeOfKey 6 (some .int) rm_z33_X9_placeOfKey [.ref (ad 61)] [(h0, ob 11 [.ref (ad 0), .ref (ad 7), .ref (ad 28), .ref (ad 30), .ref (ad 76), .ref (ad 46), .ref (ad 55), .ref (ad 57), .ref (ad 59), .ref (ad 61), .ref (ad 80), .int 0, .int 0, .int 0, .int (-1), .int (-1), .int (-1)]), ((ad 65), aI E 15 (upd (fun _ => 0) 0 (nI 0))), ((ad 62), aJ E 6000 (fun _ => 0)), ((ad 66), aJ E 2000 (fun _ => 0)), ((ad 67), aI E 2000 (fun _ => 0)), ((ad 7), ob 0 [.ref (ad 8), .ref (ad 10), .ref (ad 12), .ref (ad 14), .ref (ad 15), .ref (ad 16), .ref (ad 17), .ref (ad 18), .ref (ad 19), .ref (ad 20), .ref (ad 21), .ref (ad 22), .ref (ad 23), .ref (ad 24), .ref (ad 25), .ref (ad 26), .int 0, .ref (ad 27), .int 0, .int 0]), ((ad 80), aI E 64 gc), ((ad 63), aS E 4096 (fun _ => 0)), ((ad 76), ob 3 [.ref (ad 77), .ref (ad 78), .ref (ad 79), .ref (ad 71), .ref (ad 72), .ref (ad 73), .ref (ad 74), .ref (ad 75), .int (nI (2 * 4)), .int v2]), ((ad 77), aI E 64 gx), ((ad 78), aI E 64 gy), ((ad 79), aI E 64 gf), ((ad 61), ob 9 [.ref (ad 7), .ref (ad 30), .ref (ad 46), .ref (ad 62), .ref (ad 63), .ref (ad 64), .ref (ad 65), .ref (ad 66), .ref (ad 67), .ref (ad 68), .ref (ad 69), .int (nI 0), .int 0, .int 0, .int (-1), .ref (ad 70), .int (nI 0), .int (nI 0)]), ((ad 68), aJ E 3 (pkK stN 8)), ((ad 69), aI E 16 gk)] (qI E (fun (r : Int32) (_u : Unit) => r = nI 4022) (fun _ => [(h0, ob 11 [.ref (ad 0), .ref (ad 7), .ref (ad 28), .ref (ad 30), .ref (ad 76), .ref (ad 46), .ref (ad 55), .ref (ad 57), .ref (ad 59), .ref (ad 61), .ref (ad 80), .int 0, .int 0, .int 0, .int (-1), .int (-1), .int (-1)]), ((ad 65), aI E 15 (upd (fun _ => 0) 0 (nI 0))), ((ad 62), aJ E 6000 (fun _ => 0)), ((ad 66), aJ E 2000 (fun _ => 0)), ((ad 67), aI E 2000 (fun _ => 0)), ((ad 7), ob 0 [.ref (ad 8), .ref (ad 10), .ref (ad 12), .ref (ad 14), .ref (ad 15), .ref (ad 16), .ref (ad 17), .ref (ad 18), .ref (ad 19), .ref (ad 20), .ref (ad 21), .ref (ad 22), .ref (ad 23), .ref (ad 24), .ref (ad 25), .ref (ad 26), .int 0, .ref (ad 27), .int 0, .int 0]), ((ad 80), aI E 64 gc), ((ad 63), aS E 4096 (fun _ => 0)), ((ad 76), ob 3 [.ref (ad 77), .ref (ad 78), .ref (ad 79), .ref (ad 71), .ref (ad 72), .ref (ad 73), .ref (ad 74), .ref (ad 75), .int (nI (2 * 4)), .int v2]), ((ad 77), aI E 64 gx), ((ad 78), aI E 64 gy), ((ad 79), aI E 64 gf), ((ad 61), ob 9 [.ref (ad 7), .ref (ad 30), .ref (ad 46), .ref (ad 62), .ref (ad 63), .ref (ad 64), .ref (ad 65), .ref (ad 66), .ref (ad 67), .ref (ad 68), .ref (ad 69), .int (nI 0), .int 0, .int 0, .int (-1), .ref (ad 70), .int (nI 0), .int (nI 0)]), ((ad 68), aJ E 3 (pkK stN 8)), ((ad 69), aI E 16 gk)])) := by
  refine cM_of (by decide) (Nat.le_of_ble_eq_true rfl) ?_
  intro p e s m below meth c ls A F hA hS hP hD hK hZ hl
  obtain ⟨hx, hb, hr, hml, hown, hts, hlk, hin⟩ := id F
  have hown : s.vm.findClass RX9 = some m.cls := hown
  have hl : lv_has ls 6 [(0, .ref (ad 61))] := hl
  refine lv_aload_n hx hb dX9_placeOfKey_0 rfl (lv_at hl 0 rfl) ?_
  refine va_get (D := E.1) (ci := 9) (v := .ref (ad 68)) (C := RX9) (T := TX9) (N := 18) hx hb hts iX9 hown hK hP 12 rfl rfl 9 (by decide) (hts _ wdF_RX9_33) (fun _ h9 => h9) rfl dX9_placeOfKey_1 ?_
  refine lv_iconst (v := nI 0) hx hb dX9_placeOfKey_4 (by decide) ?_
  refine va_lald hx hb hK hP 13 2 rfl rfl (vp_in_nI (by decide) (by decide)) dX9_placeOfKey_5 ?_
  rw [nI_clamp (n := 0) (by decide)]
  rw [show ((pkK stN 8) 0 : Int64) = 223150436531576836 from by decide +kernel]
  refine lv_ldc2 hx hb hown (hts _ wdL_RX9_134) dX9_placeOfKey_6 ?_
  refine lv_lmul hx hb dX9_placeOfKey_9 ?_
  rw [show (223150436531576836 * 31 : Int64) = 6917663532478881916 from by decide +kernel]
  refine lv_aload_n hx hb dX9_placeOfKey_10 rfl (lv_at hl 0 rfl) ?_
  refine va_get (D := E.1) (ci := 9) (v := .ref (ad 68)) (C := RX9) (T := TX9) (N := 18) hx hb hts iX9 hown hK hP 12 rfl rfl 9 (by decide) (hts _ wdF_RX9_33) (fun _ h9 => h9) rfl dX9_placeOfKey_11 ?_
  refine lv_iconst (v := nI 1) hx hb dX9_placeOfKey_14 (by decide) ?_
  refine va_lald hx hb hK hP 13 2 rfl rfl (vp_in_nI (by decide) (by decide)) dX9_placeOfKey_15 ?_
  rw [nI_clamp (n := 1) (by decide)]
  rw [show ((pkK stN 8) 1 : Int64) = 66689 from by decide +kernel]
  refine lv_ladd hx hb dX9_placeOfKey_16 ?_
  rw [show (6917663532478881916 + 66689 : Int64) = 6917663532478948605 from by decide +kernel]
  refine lv_ldc2 hx hb hown (hts _ wdL_RX9_134) dX9_placeOfKey_17 ?_
  refine lv_lmul hx hb dX9_placeOfKey_20 ?_
  rw [show (6917663532478948605 * 31 : Int64) = (-6913359377667212637) from by decide +kernel]
  refine lv_aload_n hx hb dX9_placeOfKey_21 rfl (lv_at hl 0 rfl) ?_
  refine va_get (D := E.1) (ci := 9) (v := .ref (ad 68)) (C := RX9) (T := TX9) (N := 18) hx hb hts iX9 hown hK hP 12 rfl rfl 9 (by decide) (hts _ wdF_RX9_33) (fun _ h9 => h9) rfl dX9_placeOfKey_22 ?_
  refine lv_iconst (v := nI 2) hx hb dX9_placeOfKey_25 (by decide) ?_
  refine va_lald hx hb hK hP 13 2 rfl rfl (vp_in_nI (by decide) (by decide)) dX9_placeOfKey_26 ?_
  rw [nI_clamp (n := 2) (by decide)]
  rw [show ((pkK stN 8) 2 : Int64) = 0 from by decide +kernel]
  refine lv_ladd hx hb dX9_placeOfKey_27 ?_
  rw [show ((-6913359377667212637) + 0 : Int64) = (-6913359377667212637) from by decide +kernel]
  refine lv_lstore_n (lv' := [(1, .long (-6913359377667212637)), (0, .ref (ad 61))]) hx hb dX9_placeOfKey_28 rfl hl (by decide) rfl (fun ls hl => ?_)
  refine lv_lload_n hx hb dX9_placeOfKey_29 rfl (lv_at hl 0 rfl) ?_
  refine lv_lload_n hx hb dX9_placeOfKey_30 rfl (lv_at hl 0 rfl) ?_
  refine lv_bipush (v := nI 29) hx hb dX9_placeOfKey_31 (by decide) ?_
  refine lv_lushr hx hb dX9_placeOfKey_33 rfl ?_
  rw [show (((-6913359377667212637 : Int64).toUInt64 >>> ((nI 29).toInt64.toUInt64 &&& Int64.toUInt64 63)).toInt64 : Int64) = 21482603058 from by decide +kernel]
  refine lv_lxor hx hb dX9_placeOfKey_34 ?_
  rw [show ((-6913359377667212637) ^^^ 21482603058 : Int64) = (-6913359390545201007) from by decide +kernel]
  refine lv_lstore_n (lv' := [(1, .long (-6913359390545201007)), (0, .ref (ad 61))]) hx hb dX9_placeOfKey_35 rfl hl (by decide) rfl (fun ls hl => ?_)
  refine lv_lload_n hx hb dX9_placeOfKey_36 rfl (lv_at hl 0 rfl) ?_
  refine lv_ldc2 hx hb hown (hts _ wdL_RX9_136) dX9_placeOfKey_37 ?_
  refine lv_lmul hx hb dX9_placeOfKey_40 ?_
  rw [show ((-6913359390545201007) * (-7046029254386353131) : Int64) = (-329006962339880987) from by decide +kernel]
  refine lv_bipush (v := nI 52) hx hb dX9_placeOfKey_41 (by decide) ?_
  refine lv_lushr hx hb dX9_placeOfKey_43 rfl ?_
  rw [show (((-329006962339880987 : Int64).toUInt64 >>> ((nI 52).toInt64.toUInt64 &&& Int64.toUInt64 63)).toInt64 : Int64) = 4022 from by decide +kernel]
  refine lv_l2i hx hb dX9_placeOfKey_44 rfl ?_
  rw [show ((4022 : Int64).toInt32 : Int32) = nI 4022 from by decide +kernel]
  refine lv_istore_n (lv' := [(3, .int (nI 4022)), (1, .long (-6913359390545201007)), (0, .ref (ad 61))]) hx hb dX9_placeOfKey_45 rfl hl (by decide) rfl (fun ls hl => ?_)
  refine lv_iconst (v := nI 0) hx hb dX9_placeOfKey_46 (by decide) ?_
  refine lv_istore (lv' := [(4, .int (nI 0)), (3, .int (nI 4022)), (1, .long (-6913359390545201007)), (0, .ref (ad 61))]) hx hb dX9_placeOfKey_47 hl (by decide) rfl (fun ls hl => ?_)
  refine lv_iload hx hb dX9_placeOfKey_49 (lv_at hl 0 rfl) ?_
  refine lv_sipush (v := nI 4096) hx hb dX9_placeOfKey_51 (by decide) ?_
  refine lv_icmp_ge (tgt := 153) hx hb dX9_placeOfKey_54 (by decide) (fun c_508 => absurd c_508 (by decide)) (fun c_508 => ?_)
  refine lv_aload_n hx hb dX9_placeOfKey_57 rfl (lv_at hl 3 rfl) ?_
  refine va_get (D := E.1) (ci := 9) (v := .ref (ad 63)) (C := RX9) (T := TX9) (N := 18) hx hb hts iX9 hown hK hP 12 rfl rfl 4 (by decide) (hts _ wdF_RX9_15) (fun _ h9 => h9) rfl dX9_placeOfKey_58 ?_
  refine lv_iload_n hx hb dX9_placeOfKey_61 rfl (lv_at hl 1 rfl) ?_
  refine va_sald hx hb hK hP 7 3 rfl rfl (vp_in_nI (by decide) (by decide)) dX9_placeOfKey_62 ?_
  refine lv_if_eq (tgt := 153) hx hb dX9_placeOfKey_63 (by decide) (fun c_509 => ?_) (fun c_509 => absurd (by decide) c_509)
  refine lv_iload_n hx hb dX9_placeOfKey_153 rfl (lv_at hl 1 rfl) ?_
  exact cI_ret F hP hD hS hK () rfl [0, 1, 2, 3, 4, 5, 6, 7, 8, 9, 10, 11, 12, 13, 14] rfl rfl dX9_placeOfKey_154 (by decide) (by decide)
theorem yy_X9_placeOfKey : cY yX9_placeOfKey cX9_placeOfKey 6 (some .int) 0 := ⟨wdK_X9_placeOfKey, wdZ_RX9, by decide +kernel⟩
theorem yi_X9_placeOfKey : cYi yX9_placeOfKey := ⟨wdN_X9_placeOfKey, wdS_X9_placeOfKey⟩
theorem dX9_meet_0 : decode cX9_meet 0 = .ok (.aload_n 0, 1) := by decide +kernel
theorem dX9_meet_1 : decode cX9_meet 1 = .ok (.invokevirtual 100, 3) := by decide +kernel
theorem dX9_meet_4 : decode cX9_meet 4 = .ok (.istore_n 1, 1) := by decide +kernel
theorem dX9_meet_5 : decode cX9_meet 5 = .ok (.aload_n 0, 1) := by decide +kernel
theorem dX9_meet_6 : decode cX9_meet 6 = .ok (.getfield 15, 3) := by decide +kernel
theorem dX9_meet_9 : decode cX9_meet 9 = .ok (.iload_n 1, 1) := by decide +kernel
theorem dX9_meet_10 : decode cX9_meet 10 = .ok (.saload, 1) := by decide +kernel
theorem dX9_meet_11 : decode cX9_meet 11 = .ok (.ifCond .eq 12, 3) := by decide +kernel
theorem dX9_meet_14 : decode cX9_meet 14 = .ok (.aload_n 0, 1) := by decide +kernel
theorem dX9_meet_15 : decode cX9_meet 15 = .ok (.getfield 15, 3) := by decide +kernel
theorem dX9_meet_18 : decode cX9_meet 18 = .ok (.iload_n 1, 1) := by decide +kernel
theorem dX9_meet_19 : decode cX9_meet 19 = .ok (.saload, 1) := by decide +kernel
theorem dX9_meet_20 : decode cX9_meet 20 = .ok (.iconst 1, 1) := by decide +kernel
theorem dX9_meet_21 : decode cX9_meet 21 = .ok (.isub, 1) := by decide +kernel
theorem dX9_meet_22 : decode cX9_meet 22 = .ok (.ireturn, 1) := by decide +kernel
theorem dX9_meet_23 : decode cX9_meet 23 = .ok (.aload_n 0, 1) := by decide +kernel
theorem dX9_meet_24 : decode cX9_meet 24 = .ok (.getfield 74, 3) := by decide +kernel
theorem dX9_meet_27 : decode cX9_meet 27 = .ok (.sipush 2000, 3) := by decide +kernel
theorem dX9_meet_30 : decode cX9_meet 30 = .ok (.if_icmp .ge 13, 3) := by decide +kernel
theorem dX9_meet_33 : decode cX9_meet 33 = .ok (.aload_n 0, 1) := by decide +kernel
theorem dX9_meet_34 : decode cX9_meet 34 = .ok (.getfield 138, 3) := by decide +kernel
theorem dX9_meet_37 : decode cX9_meet 37 = .ok (.sipush 10000, 3) := by decide +kernel
theorem dX9_meet_40 : decode cX9_meet 40 = .ok (.if_icmp .lt 5, 3) := by decide +kernel
theorem dX9_meet_43 : decode cX9_meet 43 = .ok (.iconst (-1), 1) := by decide +kernel
theorem dX9_meet_44 : decode cX9_meet 44 = .ok (.ireturn, 1) := by decide +kernel
theorem dX9_meet_45 : decode cX9_meet 45 = .ok (.aload_n 0, 1) := by decide +kernel
theorem dX9_meet_46 : decode cX9_meet 46 = .ok (.getfield 33, 3) := by decide +kernel
theorem dX9_meet_49 : decode cX9_meet 49 = .ok (.iconst 0, 1) := by decide +kernel
theorem dX9_meet_50 : decode cX9_meet 50 = .ok (.aload_n 0, 1) := by decide +kernel
theorem dX9_meet_51 : decode cX9_meet 51 = .ok (.getfield 11, 3) := by decide +kernel
theorem dX9_meet_54 : decode cX9_meet 54 = .ok (.iconst 3, 1) := by decide +kernel
theorem dX9_meet_55 : decode cX9_meet 55 = .ok (.aload_n 0, 1) := by decide +kernel
theorem dX9_meet_56 : decode cX9_meet 56 = .ok (.getfield 74, 3) := by decide +kernel
theorem dX9_meet_59 : decode cX9_meet 59 = .ok (.imul, 1) := by decide +kernel
theorem dX9_meet_60 : decode cX9_meet 60 = .ok (.iconst 3, 1) := by decide +kernel
theorem dX9_meet_61 : decode cX9_meet 61 = .ok (.invokestatic 141, 3) := by decide +kernel
theorem dX9_meet_64 : decode cX9_meet 64 = .ok (.aload_n 0, 1) := by decide +kernel
theorem dX9_meet_65 : decode cX9_meet 65 = .ok (.dup, 1) := by decide +kernel
theorem dX9_meet_66 : decode cX9_meet 66 = .ok (.getfield 74, 3) := by decide +kernel
theorem dX9_meet_69 : decode cX9_meet 69 = .ok (.iconst 1, 1) := by decide +kernel
theorem dX9_meet_70 : decode cX9_meet 70 = .ok (.iadd, 1) := by decide +kernel
theorem dX9_meet_71 : decode cX9_meet 71 = .ok (.putfield 74, 3) := by decide +kernel
theorem dX9_meet_74 : decode cX9_meet 74 = .ok (.aload_n 0, 1) := by decide +kernel
theorem dX9_meet_75 : decode cX9_meet 75 = .ok (.dup, 1) := by decide +kernel
theorem dX9_meet_76 : decode cX9_meet 76 = .ok (.getfield 138, 3) := by decide +kernel
theorem dX9_meet_79 : decode cX9_meet 79 = .ok (.iconst 1, 1) := by decide +kernel
theorem dX9_meet_80 : decode cX9_meet 80 = .ok (.iadd, 1) := by decide +kernel
theorem dX9_meet_81 : decode cX9_meet 81 = .ok (.putfield 138, 3) := by decide +kernel
theorem dX9_meet_84 : decode cX9_meet 84 = .ok (.aload_n 0, 1) := by decide +kernel
theorem dX9_meet_85 : decode cX9_meet 85 = .ok (.getfield 15, 3) := by decide +kernel
theorem dX9_meet_88 : decode cX9_meet 88 = .ok (.iload_n 1, 1) := by decide +kernel
theorem dX9_meet_89 : decode cX9_meet 89 = .ok (.aload_n 0, 1) := by decide +kernel
theorem dX9_meet_90 : decode cX9_meet 90 = .ok (.getfield 74, 3) := by decide +kernel
theorem dX9_meet_93 : decode cX9_meet 93 = .ok (.i2s, 1) := by decide +kernel
theorem dX9_meet_94 : decode cX9_meet 94 = .ok (.sastore, 1) := by decide +kernel
theorem dX9_meet_95 : decode cX9_meet 95 = .ok (.aload_n 0, 1) := by decide +kernel
theorem dX9_meet_96 : decode cX9_meet 96 = .ok (.getfield 74, 3) := by decide +kernel
theorem dX9_meet_99 : decode cX9_meet 99 = .ok (.iconst 1, 1) := by decide +kernel
theorem dX9_meet_100 : decode cX9_meet 100 = .ok (.isub, 1) := by decide +kernel
theorem dX9_meet_101 : decode cX9_meet 101 = .ok (.ireturn, 1) := by decide +kernel
abbrev rm_z32_X9_meet : Room := { frames := 1, cells := 0, slots := 0, locals := 60 }
set_option maxHeartbeats 4000000 in
set_option maxRecDepth 100000 in
theorem z32_X9_meet (l : Launch) (E : cE) (h0 : Nat) (ad : Nat → Nat) (gx : Nat → Int32) (gy : Nat → Int32) (gf : Nat → Int32) (v2 : Int32) (gt : Nat → Int32) (gh : Nat → Int32) (gc : Nat → Int32) (dp : Nat) (gk : Nat → Int32) (hw1 : flo (stC 0) (2 * 4) gx gy gf) (hw3 : ∀ d, d < 2 * 4 → gt d = 0) (hw4 : ∀ d, d < 2 * 4 → gh d = nI (stC 0 d)) (hw5 : ∀ d, d < 2 * 4 → gc d = nI (stC 0 d)) (hdp : dp ≤ 12) : cM l E yX9_meet cX9_meet 2 (some .int) rm_z32_X9_meet [.ref (ad 61)] [(h0, ob 11 [.ref (ad 0), .ref (ad 7), .ref (ad 28), .ref (ad 30), .ref (ad 76), .ref (ad 46), .ref (ad 55), .ref (ad 57), .ref (ad 59), .ref (ad 61), .ref (ad 80), .int 0, .int 0, .int 0, .int (-1), .int (-1), .int (-1)]), ((ad 65), aI E 15 (upd (fun _ => 0) 0 (nI 0))), ((ad 62), aJ E 6000 (fun _ => 0)), ((ad 66), aJ E 2000 (fun _ => 0)), ((ad 67), aI E 2000 (fun _ => 0)), ((ad 7), ob 0 [.ref (ad 8), .ref (ad 10), .ref (ad 12), .ref (ad 14), .ref (ad 15), .ref (ad 16), .ref (ad 17), .ref (ad 18), .ref (ad 19), .ref (ad 20), .ref (ad 21), .ref (ad 22), .ref (ad 23), .ref (ad 24), .ref (ad 25), .ref (ad 26), .int 0, .ref (ad 27), .int 0, .int 0]), ((ad 80), aI E 64 gc), ((ad 63), aS E 4096 (fun _ => 0)), ((ad 76), ob 3 [.ref (ad 77), .ref (ad 78), .ref (ad 79), .ref (ad 71), .ref (ad 72), .ref (ad 73), .ref (ad 74), .ref (ad 75), .int (nI (2 * 4)), .int v2]), ((ad 77), aI E 64 gx), ((ad 78), aI E 64 gy), ((ad 79), aI E 64 gf), ((ad 61), ob 9 [.ref (ad 7), .ref (ad 30), .ref (ad 46), .ref (ad 62), .ref (ad 63), .ref (ad 64), .ref (ad 65), .ref (ad 66), .ref (ad 67), .ref (ad 68), .ref (ad 69), .int (nI 0), .int 0, .int 0, .int (-1), .ref (ad 70), .int (nI 0), .int (nI 0)]), ((ad 68), aJ E 3 (pkK stN 8)), ((ad 69), aI E 16 gk)] (qI E (fun (r : Int32) (_u : Unit) => r = nI 0) (fun _ => [(h0, ob 11 [.ref (ad 0), .ref (ad 7), .ref (ad 28), .ref (ad 30), .ref (ad 76), .ref (ad 46), .ref (ad 55), .ref (ad 57), .ref (ad 59), .ref (ad 61), .ref (ad 80), .int 0, .int 0, .int 0, .int (-1), .int (-1), .int (-1)]), ((ad 65), aI E 15 (upd (fun _ => 0) 0 (nI 0))), ((ad 62), aJ E 6000 (fun j => if j < 3 then pkK stN 8 j else 0)), ((ad 66), aJ E 2000 (fun _ => 0)), ((ad 67), aI E 2000 (fun _ => 0)), ((ad 7), ob 0 [.ref (ad 8), .ref (ad 10), .ref (ad 12), .ref (ad 14), .ref (ad 15), .ref (ad 16), .ref (ad 17), .ref (ad 18), .ref (ad 19), .ref (ad 20), .ref (ad 21), .ref (ad 22), .ref (ad 23), .ref (ad 24), .ref (ad 25), .ref (ad 26), .int 0, .ref (ad 27), .int 0, .int 0]), ((ad 80), aI E 64 gc), ((ad 63), aS E 4096 (upd (fun _ => 0) 4022 (vp_nar .short (nI 1)))), ((ad 76), ob 3 [.ref (ad 77), .ref (ad 78), .ref (ad 79), .ref (ad 71), .ref (ad 72), .ref (ad 73), .ref (ad 74), .ref (ad 75), .int (nI (2 * 4)), .int v2]), ((ad 77), aI E 64 gx), ((ad 78), aI E 64 gy), ((ad 79), aI E 64 gf), ((ad 61), ob 9 [.ref (ad 7), .ref (ad 30), .ref (ad 46), .ref (ad 62), .ref (ad 63), .ref (ad 64), .ref (ad 65), .ref (ad 66), .ref (ad 67), .ref (ad 68), .ref (ad 69), .int (nI 1), .int 0, .int (nI 1), .int (-1), .ref (ad 70), .int (nI 0), .int (nI 0)]), ((ad 68), aJ E 3 (pkK stN 8)), ((ad 69), aI E 16 gk)])) := by
  refine cM_of (by decide) (Nat.le_of_ble_eq_true rfl) ?_
  intro p e s m below meth c ls A F hA hS hP hD hK hZ hl
  obtain ⟨hx, hb, hr, hml, hown, hts, hlk, hin⟩ := id F
  have hown : s.vm.findClass RX9 = some m.cls := hown
  have hl : lv_has ls 2 [(0, .ref (ad 61))] := hl
  refine lv_aload_n hx hb dX9_meet_0 rfl (lv_at hl 0 rfl) ?_
  refine cI_go (wr := []) (cM_runV (As := []) (rest := []) F (z33_X9_placeOfKey l E h0 ad gx gy gf v2 gt gh gc dp gk hw1 hw3 hw4 hw5 hdp) yy_X9_placeOfKey yi_X9_placeOfKey wdM_RX9_100 hP hD hS hK hZ hA [0, 1, 2, 3, 4, 5, 6, 7, 8, 9, 10, 11, 12, 13, 14] rfl rfl 12 9 rfl rfl rfl hl.1 rfl (Nat.le_of_ble_eq_true rfl) dX9_meet_1 ⟨by decide, by decide⟩ ⟨by decide, by decide⟩) hP hD hS hA [0, 1, 2, 3, 4, 5, 6, 7, 8, 9, 10, 11, 12, 13, 14] [] rfl rfl rfl (by decide) (fun r_512 u_511 H locs hw_510 hP hD hS => ?_)
  try dsimp only at hw_510
  have hP : va_P E.1 vwCl [(h0, ob 11 [.ref (ad 0), .ref (ad 7), .ref (ad 28), .ref (ad 30), .ref (ad 76), .ref (ad 46), .ref (ad 55), .ref (ad 57), .ref (ad 59), .ref (ad 61), .ref (ad 80), .int 0, .int 0, .int 0, .int (-1), .int (-1), .int (-1)]), ((ad 65), aI E 15 (upd (fun _ => 0) 0 (nI 0))), ((ad 62), aJ E 6000 (fun _ => 0)), ((ad 66), aJ E 2000 (fun _ => 0)), ((ad 67), aI E 2000 (fun _ => 0)), ((ad 7), ob 0 [.ref (ad 8), .ref (ad 10), .ref (ad 12), .ref (ad 14), .ref (ad 15), .ref (ad 16), .ref (ad 17), .ref (ad 18), .ref (ad 19), .ref (ad 20), .ref (ad 21), .ref (ad 22), .ref (ad 23), .ref (ad 24), .ref (ad 25), .ref (ad 26), .int 0, .ref (ad 27), .int 0, .int 0]), ((ad 80), aI E 64 gc), ((ad 63), aS E 4096 (fun _ => 0)), ((ad 76), ob 3 [.ref (ad 77), .ref (ad 78), .ref (ad 79), .ref (ad 71), .ref (ad 72), .ref (ad 73), .ref (ad 74), .ref (ad 75), .int (nI (2 * 4)), .int v2]), ((ad 77), aI E 64 gx), ((ad 78), aI E 64 gy), ((ad 79), aI E 64 gf), ((ad 61), ob 9 [.ref (ad 7), .ref (ad 30), .ref (ad 46), .ref (ad 62), .ref (ad 63), .ref (ad 64), .ref (ad 65), .ref (ad 66), .ref (ad 67), .ref (ad 68), .ref (ad 69), .int (nI 0), .int 0, .int 0, .int (-1), .ref (ad 70), .int (nI 0), .int (nI 0)]), ((ad 68), aJ E 3 (pkK stN 8)), ((ad 69), aI E 16 gk)] H := hP
  have hD : va_D A [(h0, ob 11 [.ref (ad 0), .ref (ad 7), .ref (ad 28), .ref (ad 30), .ref (ad 76), .ref (ad 46), .ref (ad 55), .ref (ad 57), .ref (ad 59), .ref (ad 61), .ref (ad 80), .int 0, .int 0, .int 0, .int (-1), .int (-1), .int (-1)]), ((ad 65), aI E 15 (upd (fun _ => 0) 0 (nI 0))), ((ad 62), aJ E 6000 (fun _ => 0)), ((ad 66), aJ E 2000 (fun _ => 0)), ((ad 67), aI E 2000 (fun _ => 0)), ((ad 7), ob 0 [.ref (ad 8), .ref (ad 10), .ref (ad 12), .ref (ad 14), .ref (ad 15), .ref (ad 16), .ref (ad 17), .ref (ad 18), .ref (ad 19), .ref (ad 20), .ref (ad 21), .ref (ad 22), .ref (ad 23), .ref (ad 24), .ref (ad 25), .ref (ad 26), .int 0, .ref (ad 27), .int 0, .int 0]), ((ad 80), aI E 64 gc), ((ad 63), aS E 4096 (fun _ => 0)), ((ad 76), ob 3 [.ref (ad 77), .ref (ad 78), .ref (ad 79), .ref (ad 71), .ref (ad 72), .ref (ad 73), .ref (ad 74), .ref (ad 75), .int (nI (2 * 4)), .int v2]), ((ad 77), aI E 64 gx), ((ad 78), aI E 64 gy), ((ad 79), aI E 64 gf), ((ad 61), ob 9 [.ref (ad 7), .ref (ad 30), .ref (ad 46), .ref (ad 62), .ref (ad 63), .ref (ad 64), .ref (ad 65), .ref (ad 66), .ref (ad 67), .ref (ad 68), .ref (ad 69), .int (nI 0), .int 0, .int 0, .int (-1), .ref (ad 70), .int (nI 0), .int (nI 0)]), ((ad 68), aJ E 3 (pkK stN 8)), ((ad 69), aI E 16 gk)] := hD
  subst hw_510
  refine lv_istore_n (lv' := [(1, .int (nI 4022)), (0, .ref (ad 61))]) hx hb dX9_meet_4 rfl hl (by decide) rfl (fun ls hl => ?_)
  refine lv_aload_n hx hb dX9_meet_5 rfl (lv_at hl 1 rfl) ?_
  refine va_get (D := E.1) (ci := 9) (v := .ref (ad 63)) (C := RX9) (T := TX9) (N := 18) hx hb hts iX9 hown hK hP 12 rfl rfl 4 (by decide) (hts _ wdF_RX9_15) (fun _ h9 => h9) rfl dX9_meet_6 ?_
  refine lv_iload_n hx hb dX9_meet_9 rfl (lv_at hl 0 rfl) ?_
  refine va_sald hx hb hK hP 7 3 rfl rfl (vp_in_nI (by decide) (by decide)) dX9_meet_10 ?_
  refine lv_if_eq (tgt := 23) hx hb dX9_meet_11 (by decide) (fun c_513 => ?_) (fun c_513 => absurd (by decide) c_513)
  refine lv_aload_n hx hb dX9_meet_23 rfl (lv_at hl 1 rfl) ?_
  refine va_get (D := E.1) (ci := 9) (v := .int (nI 0)) (C := RX9) (T := TX9) (N := 18) hx hb hts iX9 hown hK hP 12 rfl rfl 11 (by decide) (hts _ wdF_RX9_74) (fun _ h9 => h9) rfl dX9_meet_24 ?_
  refine lv_sipush (v := nI 2000) hx hb dX9_meet_27 (by decide) ?_
  refine lv_icmp_ge (tgt := 43) hx hb dX9_meet_30 (by decide) (fun c_514 => absurd c_514 (by decide)) (fun c_514 => ?_)
  refine lv_aload_n hx hb dX9_meet_33 rfl (lv_at hl 1 rfl) ?_
  refine va_get (D := E.1) (ci := 9) (v := .int 0) (C := RX9) (T := TX9) (N := 18) hx hb hts iX9 hown hK hP 12 rfl rfl 13 (by decide) (hts _ wdF_RX9_138) (fun _ h9 => h9) rfl dX9_meet_34 ?_
  refine lv_sipush (v := nI 10000) hx hb dX9_meet_37 (by decide) ?_
  refine lv_icmp_lt (tgt := 45) hx hb dX9_meet_40 (by decide) (fun c_515 => ?_) (fun c_515 => absurd (by decide) c_515)
  refine lv_aload_n hx hb dX9_meet_45 rfl (lv_at hl 1 rfl) ?_
  refine va_get (D := E.1) (ci := 9) (v := .ref (ad 68)) (C := RX9) (T := TX9) (N := 18) hx hb hts iX9 hown hK hP 12 rfl rfl 9 (by decide) (hts _ wdF_RX9_33) (fun _ h9 => h9) rfl dX9_meet_46 ?_
  refine lv_iconst (v := nI 0) hx hb dX9_meet_49 (by decide) ?_
  refine lv_aload_n hx hb dX9_meet_50 rfl (lv_at hl 1 rfl) ?_
  refine va_get (D := E.1) (ci := 9) (v := .ref (ad 62)) (C := RX9) (T := TX9) (N := 18) hx hb hts iX9 hown hK hP 12 rfl rfl 3 (by decide) (hts _ wdF_RX9_11) (fun _ h9 => h9) rfl dX9_meet_51 ?_
  refine lv_iconst (v := nI 3) hx hb dX9_meet_54 (by decide) ?_
  refine lv_aload_n hx hb dX9_meet_55 rfl (lv_at hl 1 rfl) ?_
  refine va_get (D := E.1) (ci := 9) (v := .int (nI 0)) (C := RX9) (T := TX9) (N := 18) hx hb hts iX9 hown hK hP 12 rfl rfl 11 (by decide) (hts _ wdF_RX9_74) (fun _ h9 => h9) rfl dX9_meet_56 ?_
  refine lv_imul hx hb dX9_meet_59 ?_
  rw [show ((nI 3) * (nI 0) : Int32) = nI 0 from by decide]
  refine lv_iconst (v := nI 3) hx hb dX9_meet_60 (by decide) ?_
  refine va_copyl hx hb (hml.trans hl.1.symm) hown (hts _ wd_acl) (hts _ wd_acn) (hts _ wd_acs) (hts _ wd_acz) hK hP hD hS 13 2 2 2 rfl rfl rfl rfl rfl (by decide) (by decide) (by decide) (by decide) (by decide) (fun _ _ => rfl) (by decide) (by decide) dX9_meet_61 (fun H locs hP hD hS => ?_)
  have hP : va_P E.1 vwCl [(h0, ob 11 [.ref (ad 0), .ref (ad 7), .ref (ad 28), .ref (ad 30), .ref (ad 76), .ref (ad 46), .ref (ad 55), .ref (ad 57), .ref (ad 59), .ref (ad 61), .ref (ad 80), .int 0, .int 0, .int 0, .int (-1), .int (-1), .int (-1)]), ((ad 65), aI E 15 (upd (fun _ => 0) 0 (nI 0))), ((ad 62), aJ E 6000 (va_cpy (pkK stN 8) (fun _ => 0) (nI 0).toNatClampNeg (nI 0).toNatClampNeg (nI 3).toNatClampNeg)), ((ad 66), aJ E 2000 (fun _ => 0)), ((ad 67), aI E 2000 (fun _ => 0)), ((ad 7), ob 0 [.ref (ad 8), .ref (ad 10), .ref (ad 12), .ref (ad 14), .ref (ad 15), .ref (ad 16), .ref (ad 17), .ref (ad 18), .ref (ad 19), .ref (ad 20), .ref (ad 21), .ref (ad 22), .ref (ad 23), .ref (ad 24), .ref (ad 25), .ref (ad 26), .int 0, .ref (ad 27), .int 0, .int 0]), ((ad 80), aI E 64 gc), ((ad 63), aS E 4096 (fun _ => 0)), ((ad 76), ob 3 [.ref (ad 77), .ref (ad 78), .ref (ad 79), .ref (ad 71), .ref (ad 72), .ref (ad 73), .ref (ad 74), .ref (ad 75), .int (nI (2 * 4)), .int v2]), ((ad 77), aI E 64 gx), ((ad 78), aI E 64 gy), ((ad 79), aI E 64 gf), ((ad 61), ob 9 [.ref (ad 7), .ref (ad 30), .ref (ad 46), .ref (ad 62), .ref (ad 63), .ref (ad 64), .ref (ad 65), .ref (ad 66), .ref (ad 67), .ref (ad 68), .ref (ad 69), .int (nI 0), .int 0, .int 0, .int (-1), .ref (ad 70), .int (nI 0), .int (nI 0)]), ((ad 68), aJ E 3 (pkK stN 8)), ((ad 69), aI E 16 gk)] H := hP
  have hD : va_D A [(h0, ob 11 [.ref (ad 0), .ref (ad 7), .ref (ad 28), .ref (ad 30), .ref (ad 76), .ref (ad 46), .ref (ad 55), .ref (ad 57), .ref (ad 59), .ref (ad 61), .ref (ad 80), .int 0, .int 0, .int 0, .int (-1), .int (-1), .int (-1)]), ((ad 65), aI E 15 (upd (fun _ => 0) 0 (nI 0))), ((ad 62), aJ E 6000 (va_cpy (pkK stN 8) (fun _ => 0) (nI 0).toNatClampNeg (nI 0).toNatClampNeg (nI 3).toNatClampNeg)), ((ad 66), aJ E 2000 (fun _ => 0)), ((ad 67), aI E 2000 (fun _ => 0)), ((ad 7), ob 0 [.ref (ad 8), .ref (ad 10), .ref (ad 12), .ref (ad 14), .ref (ad 15), .ref (ad 16), .ref (ad 17), .ref (ad 18), .ref (ad 19), .ref (ad 20), .ref (ad 21), .ref (ad 22), .ref (ad 23), .ref (ad 24), .ref (ad 25), .ref (ad 26), .int 0, .ref (ad 27), .int 0, .int 0]), ((ad 80), aI E 64 gc), ((ad 63), aS E 4096 (fun _ => 0)), ((ad 76), ob 3 [.ref (ad 77), .ref (ad 78), .ref (ad 79), .ref (ad 71), .ref (ad 72), .ref (ad 73), .ref (ad 74), .ref (ad 75), .int (nI (2 * 4)), .int v2]), ((ad 77), aI E 64 gx), ((ad 78), aI E 64 gy), ((ad 79), aI E 64 gf), ((ad 61), ob 9 [.ref (ad 7), .ref (ad 30), .ref (ad 46), .ref (ad 62), .ref (ad 63), .ref (ad 64), .ref (ad 65), .ref (ad 66), .ref (ad 67), .ref (ad 68), .ref (ad 69), .int (nI 0), .int 0, .int 0, .int (-1), .ref (ad 70), .int (nI 0), .int (nI 0)]), ((ad 68), aJ E 3 (pkK stN 8)), ((ad 69), aI E 16 gk)] := hD
  obtain ⟨hP, hD⟩ := cw_extJ (g := (fun j => if j < 3 then pkK stN 8 j else 0)) hP hD 2 rfl (cpy3)
  have hP : va_P E.1 vwCl [(h0, ob 11 [.ref (ad 0), .ref (ad 7), .ref (ad 28), .ref (ad 30), .ref (ad 76), .ref (ad 46), .ref (ad 55), .ref (ad 57), .ref (ad 59), .ref (ad 61), .ref (ad 80), .int 0, .int 0, .int 0, .int (-1), .int (-1), .int (-1)]), ((ad 65), aI E 15 (upd (fun _ => 0) 0 (nI 0))), ((ad 62), aJ E 6000 (fun j => if j < 3 then pkK stN 8 j else 0)), ((ad 66), aJ E 2000 (fun _ => 0)), ((ad 67), aI E 2000 (fun _ => 0)), ((ad 7), ob 0 [.ref (ad 8), .ref (ad 10), .ref (ad 12), .ref (ad 14), .ref (ad 15), .ref (ad 16), .ref (ad 17), .ref (ad 18), .ref (ad 19), .ref (ad 20), .ref (ad 21), .ref (ad 22), .ref (ad 23), .ref (ad 24), .ref (ad 25), .ref (ad 26), .int 0, .ref (ad 27), .int 0, .int 0]), ((ad 80), aI E 64 gc), ((ad 63), aS E 4096 (fun _ => 0)), ((ad 76), ob 3 [.ref (ad 77), .ref (ad 78), .ref (ad 79), .ref (ad 71), .ref (ad 72), .ref (ad 73), .ref (ad 74), .ref (ad 75), .int (nI (2 * 4)), .int v2]), ((ad 77), aI E 64 gx), ((ad 78), aI E 64 gy), ((ad 79), aI E 64 gf), ((ad 61), ob 9 [.ref (ad 7), .ref (ad 30), .ref (ad 46), .ref (ad 62), .ref (ad 63), .ref (ad 64), .ref (ad 65), .ref (ad 66), .ref (ad 67), .ref (ad 68), .ref (ad 69), .int (nI 0), .int 0, .int 0, .int (-1), .ref (ad 70), .int (nI 0), .int (nI 0)]), ((ad 68), aJ E 3 (pkK stN 8)), ((ad 69), aI E 16 gk)] H := hP
  have hD : va_D A [(h0, ob 11 [.ref (ad 0), .ref (ad 7), .ref (ad 28), .ref (ad 30), .ref (ad 76), .ref (ad 46), .ref (ad 55), .ref (ad 57), .ref (ad 59), .ref (ad 61), .ref (ad 80), .int 0, .int 0, .int 0, .int (-1), .int (-1), .int (-1)]), ((ad 65), aI E 15 (upd (fun _ => 0) 0 (nI 0))), ((ad 62), aJ E 6000 (fun j => if j < 3 then pkK stN 8 j else 0)), ((ad 66), aJ E 2000 (fun _ => 0)), ((ad 67), aI E 2000 (fun _ => 0)), ((ad 7), ob 0 [.ref (ad 8), .ref (ad 10), .ref (ad 12), .ref (ad 14), .ref (ad 15), .ref (ad 16), .ref (ad 17), .ref (ad 18), .ref (ad 19), .ref (ad 20), .ref (ad 21), .ref (ad 22), .ref (ad 23), .ref (ad 24), .ref (ad 25), .ref (ad 26), .int 0, .ref (ad 27), .int 0, .int 0]), ((ad 80), aI E 64 gc), ((ad 63), aS E 4096 (fun _ => 0)), ((ad 76), ob 3 [.ref (ad 77), .ref (ad 78), .ref (ad 79), .ref (ad 71), .ref (ad 72), .ref (ad 73), .ref (ad 74), .ref (ad 75), .int (nI (2 * 4)), .int v2]), ((ad 77), aI E 64 gx), ((ad 78), aI E 64 gy), ((ad 79), aI E 64 gf), ((ad 61), ob 9 [.ref (ad 7), .ref (ad 30), .ref (ad 46), .ref (ad 62), .ref (ad 63), .ref (ad 64), .ref (ad 65), .ref (ad 66), .ref (ad 67), .ref (ad 68), .ref (ad 69), .int (nI 0), .int 0, .int 0, .int (-1), .ref (ad 70), .int (nI 0), .int (nI 0)]), ((ad 68), aJ E 3 (pkK stN 8)), ((ad 69), aI E 16 gk)] := hD
  refine lv_aload_n hx hb dX9_meet_64 rfl (lv_at hl 1 rfl) ?_
  refine lv_dup hx hb dX9_meet_65 rfl ?_
  refine va_get (D := E.1) (ci := 9) (v := .int (nI 0)) (C := RX9) (T := TX9) (N := 18) hx hb hts iX9 hown hK hP 12 rfl rfl 11 (by decide) (hts _ wdF_RX9_74) (fun _ h9 => h9) rfl dX9_meet_66 ?_
  refine lv_iconst (v := nI 1) hx hb dX9_meet_69 (by decide) ?_
  refine lv_iadd hx hb dX9_meet_70 ?_
  rw [show ((nI 0) + (nI 1) : Int32) = nI 1 from by decide]
  refine va_put (D := E.1) (ci := 9) (v := .int (nI 1)) (ty := .int) (C := RX9) (T := TX9) (N := 18) hx hb hts iX9 tyX9 tyX9_ok nmX9 hown hK hP hD hS 12 rfl rfl 11 (by decide) (hts _ wdF_RX9_74) (fun _ h9 => h9) rfl (by decide +kernel) rfl rfl (Nat.le_of_ble_eq_true rfl) dX9_meet_71 (fun H locs hP hD hS => ?_)
  have hP : va_P E.1 vwCl [(h0, ob 11 [.ref (ad 0), .ref (ad 7), .ref (ad 28), .ref (ad 30), .ref (ad 76), .ref (ad 46), .ref (ad 55), .ref (ad 57), .ref (ad 59), .ref (ad 61), .ref (ad 80), .int 0, .int 0, .int 0, .int (-1), .int (-1), .int (-1)]), ((ad 65), aI E 15 (upd (fun _ => 0) 0 (nI 0))), ((ad 62), aJ E 6000 (fun j => if j < 3 then pkK stN 8 j else 0)), ((ad 66), aJ E 2000 (fun _ => 0)), ((ad 67), aI E 2000 (fun _ => 0)), ((ad 7), ob 0 [.ref (ad 8), .ref (ad 10), .ref (ad 12), .ref (ad 14), .ref (ad 15), .ref (ad 16), .ref (ad 17), .ref (ad 18), .ref (ad 19), .ref (ad 20), .ref (ad 21), .ref (ad 22), .ref (ad 23), .ref (ad 24), .ref (ad 25), .ref (ad 26), .int 0, .ref (ad 27), .int 0, .int 0]), ((ad 80), aI E 64 gc), ((ad 63), aS E 4096 (fun _ => 0)), ((ad 76), ob 3 [.ref (ad 77), .ref (ad 78), .ref (ad 79), .ref (ad 71), .ref (ad 72), .ref (ad 73), .ref (ad 74), .ref (ad 75), .int (nI (2 * 4)), .int v2]), ((ad 77), aI E 64 gx), ((ad 78), aI E 64 gy), ((ad 79), aI E 64 gf), ((ad 61), ob 9 [.ref (ad 7), .ref (ad 30), .ref (ad 46), .ref (ad 62), .ref (ad 63), .ref (ad 64), .ref (ad 65), .ref (ad 66), .ref (ad 67), .ref (ad 68), .ref (ad 69), .int (nI 1), .int 0, .int 0, .int (-1), .ref (ad 70), .int (nI 0), .int (nI 0)]), ((ad 68), aJ E 3 (pkK stN 8)), ((ad 69), aI E 16 gk)] H := hP
  have hD : va_D A [(h0, ob 11 [.ref (ad 0), .ref (ad 7), .ref (ad 28), .ref (ad 30), .ref (ad 76), .ref (ad 46), .ref (ad 55), .ref (ad 57), .ref (ad 59), .ref (ad 61), .ref (ad 80), .int 0, .int 0, .int 0, .int (-1), .int (-1), .int (-1)]), ((ad 65), aI E 15 (upd (fun _ => 0) 0 (nI 0))), ((ad 62), aJ E 6000 (fun j => if j < 3 then pkK stN 8 j else 0)), ((ad 66), aJ E 2000 (fun _ => 0)), ((ad 67), aI E 2000 (fun _ => 0)), ((ad 7), ob 0 [.ref (ad 8), .ref (ad 10), .ref (ad 12), .ref (ad 14), .ref (ad 15), .ref (ad 16), .ref (ad 17), .ref (ad 18), .ref (ad 19), .ref (ad 20), .ref (ad 21), .ref (ad 22), .ref (ad 23), .ref (ad 24), .ref (ad 25), .ref (ad 26), .int 0, .ref (ad 27), .int 0, .int 0]), ((ad 80), aI E 64 gc), ((ad 63), aS E 4096 (fun _ => 0)), ((ad 76), ob 3 [.ref (ad 77), .ref (ad 78), .ref (ad 79), .ref (ad 71), .ref (ad 72), .ref (ad 73), .ref (ad 74), .ref (ad 75), .int (nI (2 * 4)), .int v2]), ((ad 77), aI E 64 gx), ((ad 78), aI E 64 gy), ((ad 79), aI E 64 gf), ((ad 61), ob 9 [.ref (ad 7), .ref (ad 30), .ref (ad 46), .ref (ad 62), .ref (ad 63), .ref (ad 64), .ref (ad 65), .ref (ad 66), .ref (ad 67), .ref (ad 68), .ref (ad 69), .int (nI 1), .int 0, .int 0, .int (-1), .ref (ad 70), .int (nI 0), .int (nI 0)]), ((ad 68), aJ E 3 (pkK stN 8)), ((ad 69), aI E 16 gk)] := hD
  refine lv_aload_n hx hb dX9_meet_74 rfl (lv_at hl 1 rfl) ?_
  refine lv_dup hx hb dX9_meet_75 rfl ?_
  refine va_get (D := E.1) (ci := 9) (v := .int 0) (C := RX9) (T := TX9) (N := 18) hx hb hts iX9 hown hK hP 12 rfl rfl 13 (by decide) (hts _ wdF_RX9_138) (fun _ h9 => h9) rfl dX9_meet_76 ?_
  refine lv_iconst (v := nI 1) hx hb dX9_meet_79 (by decide) ?_
  refine lv_iadd hx hb dX9_meet_80 ?_
  rw [show (0 + (nI 1) : Int32) = nI 1 from by decide]
  refine va_put (D := E.1) (ci := 9) (v := .int (nI 1)) (ty := .int) (C := RX9) (T := TX9) (N := 18) hx hb hts iX9 tyX9 tyX9_ok nmX9 hown hK hP hD hS 12 rfl rfl 13 (by decide) (hts _ wdF_RX9_138) (fun _ h9 => h9) rfl (by decide +kernel) rfl rfl (Nat.le_of_ble_eq_true rfl) dX9_meet_81 (fun H locs hP hD hS => ?_)
  have hP : va_P E.1 vwCl [(h0, ob 11 [.ref (ad 0), .ref (ad 7), .ref (ad 28), .ref (ad 30), .ref (ad 76), .ref (ad 46), .ref (ad 55), .ref (ad 57), .ref (ad 59), .ref (ad 61), .ref (ad 80), .int 0, .int 0, .int 0, .int (-1), .int (-1), .int (-1)]), ((ad 65), aI E 15 (upd (fun _ => 0) 0 (nI 0))), ((ad 62), aJ E 6000 (fun j => if j < 3 then pkK stN 8 j else 0)), ((ad 66), aJ E 2000 (fun _ => 0)), ((ad 67), aI E 2000 (fun _ => 0)), ((ad 7), ob 0 [.ref (ad 8), .ref (ad 10), .ref (ad 12), .ref (ad 14), .ref (ad 15), .ref (ad 16), .ref (ad 17), .ref (ad 18), .ref (ad 19), .ref (ad 20), .ref (ad 21), .ref (ad 22), .ref (ad 23), .ref (ad 24), .ref (ad 25), .ref (ad 26), .int 0, .ref (ad 27), .int 0, .int 0]), ((ad 80), aI E 64 gc), ((ad 63), aS E 4096 (fun _ => 0)), ((ad 76), ob 3 [.ref (ad 77), .ref (ad 78), .ref (ad 79), .ref (ad 71), .ref (ad 72), .ref (ad 73), .ref (ad 74), .ref (ad 75), .int (nI (2 * 4)), .int v2]), ((ad 77), aI E 64 gx), ((ad 78), aI E 64 gy), ((ad 79), aI E 64 gf), ((ad 61), ob 9 [.ref (ad 7), .ref (ad 30), .ref (ad 46), .ref (ad 62), .ref (ad 63), .ref (ad 64), .ref (ad 65), .ref (ad 66), .ref (ad 67), .ref (ad 68), .ref (ad 69), .int (nI 1), .int 0, .int (nI 1), .int (-1), .ref (ad 70), .int (nI 0), .int (nI 0)]), ((ad 68), aJ E 3 (pkK stN 8)), ((ad 69), aI E 16 gk)] H := hP
  have hD : va_D A [(h0, ob 11 [.ref (ad 0), .ref (ad 7), .ref (ad 28), .ref (ad 30), .ref (ad 76), .ref (ad 46), .ref (ad 55), .ref (ad 57), .ref (ad 59), .ref (ad 61), .ref (ad 80), .int 0, .int 0, .int 0, .int (-1), .int (-1), .int (-1)]), ((ad 65), aI E 15 (upd (fun _ => 0) 0 (nI 0))), ((ad 62), aJ E 6000 (fun j => if j < 3 then pkK stN 8 j else 0)), ((ad 66), aJ E 2000 (fun _ => 0)), ((ad 67), aI E 2000 (fun _ => 0)), ((ad 7), ob 0 [.ref (ad 8), .ref (ad 10), .ref (ad 12), .ref (ad 14), .ref (ad 15), .ref (ad 16), .ref (ad 17), .ref (ad 18), .ref (ad 19), .ref (ad 20), .ref (ad 21), .ref (ad 22), .ref (ad 23), .ref (ad 24), .ref (ad 25), .ref (ad 26), .int 0, .ref (ad 27), .int 0, .int 0]), ((ad 80), aI E 64 gc), ((ad 63), aS E 4096 (fun _ => 0)), ((ad 76), ob 3 [.ref (ad 77), .ref (ad 78), .ref (ad 79), .ref (ad 71), .ref (ad 72), .ref (ad 73), .ref (ad 74), .ref (ad 75), .int (nI (2 * 4)), .int v2]), ((ad 77), aI E 64 gx), ((ad 78), aI E 64 gy), ((ad 79), aI E 64 gf), ((ad 61), ob 9 [.ref (ad 7), .ref (ad 30), .ref (ad 46), .ref (ad 62), .ref (ad 63), .ref (ad 64), .ref (ad 65), .ref (ad 66), .ref (ad 67), .ref (ad 68), .ref (ad 69), .int (nI 1), .int 0, .int (nI 1), .int (-1), .ref (ad 70), .int (nI 0), .int (nI 0)]), ((ad 68), aJ E 3 (pkK stN 8)), ((ad 69), aI E 16 gk)] := hD
  refine lv_aload_n hx hb dX9_meet_84 rfl (lv_at hl 1 rfl) ?_
  refine va_get (D := E.1) (ci := 9) (v := .ref (ad 63)) (C := RX9) (T := TX9) (N := 18) hx hb hts iX9 hown hK hP 12 rfl rfl 4 (by decide) (hts _ wdF_RX9_15) (fun _ h9 => h9) rfl dX9_meet_85 ?_
  refine lv_iload_n hx hb dX9_meet_88 rfl (lv_at hl 0 rfl) ?_
  refine lv_aload_n hx hb dX9_meet_89 rfl (lv_at hl 1 rfl) ?_
  refine va_get (D := E.1) (ci := 9) (v := .int (nI 1)) (C := RX9) (T := TX9) (N := 18) hx hb hts iX9 hown hK hP 12 rfl rfl 11 (by decide) (hts _ wdF_RX9_74) (fun _ h9 => h9) rfl dX9_meet_90 ?_
  refine lv_i2s hx hb dX9_meet_93 rfl ?_
  rw [show ((nI 1).toInt16.toInt32 : Int32) = nI 1 from by decide +kernel]
  refine va_sast hx hb hK hP hD hS 7 3 rfl rfl (vp_in_nI (by decide) (by decide)) dX9_meet_94 (fun H locs hP hD hS => ?_)
  have hP : va_P E.1 vwCl [(h0, ob 11 [.ref (ad 0), .ref (ad 7), .ref (ad 28), .ref (ad 30), .ref (ad 76), .ref (ad 46), .ref (ad 55), .ref (ad 57), .ref (ad 59), .ref (ad 61), .ref (ad 80), .int 0, .int 0, .int 0, .int (-1), .int (-1), .int (-1)]), ((ad 65), aI E 15 (upd (fun _ => 0) 0 (nI 0))), ((ad 62), aJ E 6000 (fun j => if j < 3 then pkK stN 8 j else 0)), ((ad 66), aJ E 2000 (fun _ => 0)), ((ad 67), aI E 2000 (fun _ => 0)), ((ad 7), ob 0 [.ref (ad 8), .ref (ad 10), .ref (ad 12), .ref (ad 14), .ref (ad 15), .ref (ad 16), .ref (ad 17), .ref (ad 18), .ref (ad 19), .ref (ad 20), .ref (ad 21), .ref (ad 22), .ref (ad 23), .ref (ad 24), .ref (ad 25), .ref (ad 26), .int 0, .ref (ad 27), .int 0, .int 0]), ((ad 80), aI E 64 gc), ((ad 63), aS E 4096 (upd (fun _ => 0) (nI 4022).toNatClampNeg (vp_nar .short (nI 1)))), ((ad 76), ob 3 [.ref (ad 77), .ref (ad 78), .ref (ad 79), .ref (ad 71), .ref (ad 72), .ref (ad 73), .ref (ad 74), .ref (ad 75), .int (nI (2 * 4)), .int v2]), ((ad 77), aI E 64 gx), ((ad 78), aI E 64 gy), ((ad 79), aI E 64 gf), ((ad 61), ob 9 [.ref (ad 7), .ref (ad 30), .ref (ad 46), .ref (ad 62), .ref (ad 63), .ref (ad 64), .ref (ad 65), .ref (ad 66), .ref (ad 67), .ref (ad 68), .ref (ad 69), .int (nI 1), .int 0, .int (nI 1), .int (-1), .ref (ad 70), .int (nI 0), .int (nI 0)]), ((ad 68), aJ E 3 (pkK stN 8)), ((ad 69), aI E 16 gk)] H := hP
  have hD : va_D A [(h0, ob 11 [.ref (ad 0), .ref (ad 7), .ref (ad 28), .ref (ad 30), .ref (ad 76), .ref (ad 46), .ref (ad 55), .ref (ad 57), .ref (ad 59), .ref (ad 61), .ref (ad 80), .int 0, .int 0, .int 0, .int (-1), .int (-1), .int (-1)]), ((ad 65), aI E 15 (upd (fun _ => 0) 0 (nI 0))), ((ad 62), aJ E 6000 (fun j => if j < 3 then pkK stN 8 j else 0)), ((ad 66), aJ E 2000 (fun _ => 0)), ((ad 67), aI E 2000 (fun _ => 0)), ((ad 7), ob 0 [.ref (ad 8), .ref (ad 10), .ref (ad 12), .ref (ad 14), .ref (ad 15), .ref (ad 16), .ref (ad 17), .ref (ad 18), .ref (ad 19), .ref (ad 20), .ref (ad 21), .ref (ad 22), .ref (ad 23), .ref (ad 24), .ref (ad 25), .ref (ad 26), .int 0, .ref (ad 27), .int 0, .int 0]), ((ad 80), aI E 64 gc), ((ad 63), aS E 4096 (upd (fun _ => 0) (nI 4022).toNatClampNeg (vp_nar .short (nI 1)))), ((ad 76), ob 3 [.ref (ad 77), .ref (ad 78), .ref (ad 79), .ref (ad 71), .ref (ad 72), .ref (ad 73), .ref (ad 74), .ref (ad 75), .int (nI (2 * 4)), .int v2]), ((ad 77), aI E 64 gx), ((ad 78), aI E 64 gy), ((ad 79), aI E 64 gf), ((ad 61), ob 9 [.ref (ad 7), .ref (ad 30), .ref (ad 46), .ref (ad 62), .ref (ad 63), .ref (ad 64), .ref (ad 65), .ref (ad 66), .ref (ad 67), .ref (ad 68), .ref (ad 69), .int (nI 1), .int 0, .int (nI 1), .int (-1), .ref (ad 70), .int (nI 0), .int (nI 0)]), ((ad 68), aJ E 3 (pkK stN 8)), ((ad 69), aI E 16 gk)] := hD
  rw [nI_clamp (n := 4022) (by decide)] at hP hD
  refine lv_aload_n hx hb dX9_meet_95 rfl (lv_at hl 1 rfl) ?_
  refine va_get (D := E.1) (ci := 9) (v := .int (nI 1)) (C := RX9) (T := TX9) (N := 18) hx hb hts iX9 hown hK hP 12 rfl rfl 11 (by decide) (hts _ wdF_RX9_74) (fun _ h9 => h9) rfl dX9_meet_96 ?_
  refine lv_iconst (v := nI 1) hx hb dX9_meet_99 (by decide) ?_
  refine lv_isub hx hb dX9_meet_100 ?_
  rw [show ((nI 1) - (nI 1) : Int32) = nI 0 from by decide]
  exact cI_ret F hP hD hS hK () rfl [0, 1, 2, 3, 4, 5, 6, 7, 8, 9, 10, 11, 12, 13, 14] rfl rfl dX9_meet_101 (by decide) (by decide)
theorem yy_X9_meet : cY yX9_meet cX9_meet 2 (some .int) 0 := ⟨wdK_X9_meet, wdZ_RX9, by decide +kernel⟩
theorem yi_X9_meet : cYi yX9_meet := ⟨wdN_X9_meet, wdS_X9_meet⟩
abbrev rm_z34_X9_placeOfKey : Room := { frames := 0, cells := 0, slots := 0, locals := 0 }
set_option maxHeartbeats 4000000 in
set_option maxRecDepth 100000 in
theorem z34_X9_placeOfKey (l : Launch) (E : cE) (h0 : Nat) (ad : Nat → Nat) (gx : Nat → Int32) (gy : Nat → Int32) (gf : Nat → Int32) (v2 : Int32) (gt : Nat → Int32) (gh : Nat → Int32) (gc : Nat → Int32) (dp : Nat) (gk : Nat → Int32) (hw1 : flo (stC 0) (2 * 4) gx gy gf) (hw3 : ∀ d, d < 2 * 4 → gt d = 0) (hw4 : ∀ d, d < 2 * 4 → gh d = nI (stC 0 d)) (hw5 : ∀ d, d < 2 * 4 → gc d = nI (stC 0 d)) (hdp : dp ≤ 12) : cM l E yX9_placeOfKey cX9_placeOfKey 6 (some .int) rm_z34_X9_placeOfKey [.ref (ad 61)] [(h0, ob 11 [.ref (ad 0), .ref (ad 7), .ref (ad 28), .ref (ad 30), .ref (ad 76), .ref (ad 46), .ref (ad 55), .ref (ad 57), .ref (ad 59), .ref (ad 61), .ref (ad 80), .int 0, .int 0, .int 0, .int (-1), .int (-1), .int (-1)]), ((ad 65), aI E 15 (upd (upd (fun _ => 0) 0 (nI 0)) 1 (nI 1))), ((ad 62), aJ E 6000 (fun j => if j < 3 then pkK stN 8 j else 0)), ((ad 66), aJ E 2000 (fun _ => 0)), ((ad 67), aI E 2000 (fun _ => 0)), ((ad 7), ob 0 [.ref (ad 8), .ref (ad 10), .ref (ad 12), .ref (ad 14), .ref (ad 15), .ref (ad 16), .ref (ad 17), .ref (ad 18), .ref (ad 19), .ref (ad 20), .ref (ad 21), .ref (ad 22), .ref (ad 23), .ref (ad 24), .ref (ad 25), .ref (ad 26), .int 0, .ref (ad 27), .int 0, .int 0]), ((ad 63), aS E 4096 (upd (fun _ => 0) 4022 (vp_nar .short (nI 1)))), ((ad 76), ob 3 [.ref (ad 77), .ref (ad 78), .ref (ad 79), .ref (ad 71), .ref (ad 72), .ref (ad 73), .ref (ad 74), .ref (ad 75), .int (nI (2 * 4)), .int v2]), ((ad 77), aI E 64 gx), ((ad 78), aI E 64 gy), ((ad 79), aI E 64 gf), ((ad 69), aI E 16 gk), ((ad 61), ob 9 [.ref (ad 7), .ref (ad 30), .ref (ad 46), .ref (ad 62), .ref (ad 63), .ref (ad 64), .ref (ad 65), .ref (ad 66), .ref (ad 67), .ref (ad 68), .ref (ad 69), .int (nI 1), .int 0, .int (nI 1), .int (-1), .ref (ad 70), .int (nI 0), .int (nI 0)]), ((ad 68), aJ E 3 (pkK stN 8)), ((ad 80), aI E 64 gc)] (qI E (fun (r : Int32) (_u : Unit) => r = nI 4022) (fun _ => [(h0, ob 11 [.ref (ad 0), .ref (ad 7), .ref (ad 28), .ref (ad 30), .ref (ad 76), .ref (ad 46), .ref (ad 55), .ref (ad 57), .ref (ad 59), .ref (ad 61), .ref (ad 80), .int 0, .int 0, .int 0, .int (-1), .int (-1), .int (-1)]), ((ad 65), aI E 15 (upd (upd (fun _ => 0) 0 (nI 0)) 1 (nI 1))), ((ad 62), aJ E 6000 (fun j => if j < 3 then pkK stN 8 j else 0)), ((ad 66), aJ E 2000 (fun _ => 0)), ((ad 67), aI E 2000 (fun _ => 0)), ((ad 7), ob 0 [.ref (ad 8), .ref (ad 10), .ref (ad 12), .ref (ad 14), .ref (ad 15), .ref (ad 16), .ref (ad 17), .ref (ad 18), .ref (ad 19), .ref (ad 20), .ref (ad 21), .ref (ad 22), .ref (ad 23), .ref (ad 24), .ref (ad 25), .ref (ad 26), .int 0, .ref (ad 27), .int 0, .int 0]), ((ad 63), aS E 4096 (upd (fun _ => 0) 4022 (vp_nar .short (nI 1)))), ((ad 76), ob 3 [.ref (ad 77), .ref (ad 78), .ref (ad 79), .ref (ad 71), .ref (ad 72), .ref (ad 73), .ref (ad 74), .ref (ad 75), .int (nI (2 * 4)), .int v2]), ((ad 77), aI E 64 gx), ((ad 78), aI E 64 gy), ((ad 79), aI E 64 gf), ((ad 69), aI E 16 gk), ((ad 61), ob 9 [.ref (ad 7), .ref (ad 30), .ref (ad 46), .ref (ad 62), .ref (ad 63), .ref (ad 64), .ref (ad 65), .ref (ad 66), .ref (ad 67), .ref (ad 68), .ref (ad 69), .int (nI 1), .int 0, .int (nI 1), .int (-1), .ref (ad 70), .int (nI 0), .int (nI 0)]), ((ad 68), aJ E 3 (pkK stN 8)), ((ad 80), aI E 64 gc)])) := by
  refine cM_of (by decide) (Nat.le_of_ble_eq_true rfl) ?_
  intro p e s m below meth c ls A F hA hS hP hD hK hZ hl
  obtain ⟨hx, hb, hr, hml, hown, hts, hlk, hin⟩ := id F
  have hown : s.vm.findClass RX9 = some m.cls := hown
  have hl : lv_has ls 6 [(0, .ref (ad 61))] := hl
  refine lv_aload_n hx hb dX9_placeOfKey_0 rfl (lv_at hl 0 rfl) ?_
  refine va_get (D := E.1) (ci := 9) (v := .ref (ad 68)) (C := RX9) (T := TX9) (N := 18) hx hb hts iX9 hown hK hP 12 rfl rfl 9 (by decide) (hts _ wdF_RX9_33) (fun _ h9 => h9) rfl dX9_placeOfKey_1 ?_
  refine lv_iconst (v := nI 0) hx hb dX9_placeOfKey_4 (by decide) ?_
  refine va_lald hx hb hK hP 13 2 rfl rfl (vp_in_nI (by decide) (by decide)) dX9_placeOfKey_5 ?_
  rw [nI_clamp (n := 0) (by decide)]
  rw [show ((pkK stN 8) 0 : Int64) = 223150436531576836 from by decide +kernel]
  refine lv_ldc2 hx hb hown (hts _ wdL_RX9_134) dX9_placeOfKey_6 ?_
  refine lv_lmul hx hb dX9_placeOfKey_9 ?_
  rw [show (223150436531576836 * 31 : Int64) = 6917663532478881916 from by decide +kernel]
  refine lv_aload_n hx hb dX9_placeOfKey_10 rfl (lv_at hl 0 rfl) ?_
  refine va_get (D := E.1) (ci := 9) (v := .ref (ad 68)) (C := RX9) (T := TX9) (N := 18) hx hb hts iX9 hown hK hP 12 rfl rfl 9 (by decide) (hts _ wdF_RX9_33) (fun _ h9 => h9) rfl dX9_placeOfKey_11 ?_
  refine lv_iconst (v := nI 1) hx hb dX9_placeOfKey_14 (by decide) ?_
  refine va_lald hx hb hK hP 13 2 rfl rfl (vp_in_nI (by decide) (by decide)) dX9_placeOfKey_15 ?_
  rw [nI_clamp (n := 1) (by decide)]
  rw [show ((pkK stN 8) 1 : Int64) = 66689 from by decide +kernel]
  refine lv_ladd hx hb dX9_placeOfKey_16 ?_
  rw [show (6917663532478881916 + 66689 : Int64) = 6917663532478948605 from by decide +kernel]
  refine lv_ldc2 hx hb hown (hts _ wdL_RX9_134) dX9_placeOfKey_17 ?_
  refine lv_lmul hx hb dX9_placeOfKey_20 ?_
  rw [show (6917663532478948605 * 31 : Int64) = (-6913359377667212637) from by decide +kernel]
  refine lv_aload_n hx hb dX9_placeOfKey_21 rfl (lv_at hl 0 rfl) ?_
  refine va_get (D := E.1) (ci := 9) (v := .ref (ad 68)) (C := RX9) (T := TX9) (N := 18) hx hb hts iX9 hown hK hP 12 rfl rfl 9 (by decide) (hts _ wdF_RX9_33) (fun _ h9 => h9) rfl dX9_placeOfKey_22 ?_
  refine lv_iconst (v := nI 2) hx hb dX9_placeOfKey_25 (by decide) ?_
  refine va_lald hx hb hK hP 13 2 rfl rfl (vp_in_nI (by decide) (by decide)) dX9_placeOfKey_26 ?_
  rw [nI_clamp (n := 2) (by decide)]
  rw [show ((pkK stN 8) 2 : Int64) = 0 from by decide +kernel]
  refine lv_ladd hx hb dX9_placeOfKey_27 ?_
  rw [show ((-6913359377667212637) + 0 : Int64) = (-6913359377667212637) from by decide +kernel]
  refine lv_lstore_n (lv' := [(1, .long (-6913359377667212637)), (0, .ref (ad 61))]) hx hb dX9_placeOfKey_28 rfl hl (by decide) rfl (fun ls hl => ?_)
  refine lv_lload_n hx hb dX9_placeOfKey_29 rfl (lv_at hl 0 rfl) ?_
  refine lv_lload_n hx hb dX9_placeOfKey_30 rfl (lv_at hl 0 rfl) ?_
  refine lv_bipush (v := nI 29) hx hb dX9_placeOfKey_31 (by decide) ?_
  refine lv_lushr hx hb dX9_placeOfKey_33 rfl ?_
  rw [show (((-6913359377667212637 : Int64).toUInt64 >>> ((nI 29).toInt64.toUInt64 &&& Int64.toUInt64 63)).toInt64 : Int64) = 21482603058 from by decide +kernel]
  refine lv_lxor hx hb dX9_placeOfKey_34 ?_
  rw [show ((-6913359377667212637) ^^^ 21482603058 : Int64) = (-6913359390545201007) from by decide +kernel]
  refine lv_lstore_n (lv' := [(1, .long (-6913359390545201007)), (0, .ref (ad 61))]) hx hb dX9_placeOfKey_35 rfl hl (by decide) rfl (fun ls hl => ?_)
  refine lv_lload_n hx hb dX9_placeOfKey_36 rfl (lv_at hl 0 rfl) ?_
  refine lv_ldc2 hx hb hown (hts _ wdL_RX9_136) dX9_placeOfKey_37 ?_
  refine lv_lmul hx hb dX9_placeOfKey_40 ?_
  rw [show ((-6913359390545201007) * (-7046029254386353131) : Int64) = (-329006962339880987) from by decide +kernel]
  refine lv_bipush (v := nI 52) hx hb dX9_placeOfKey_41 (by decide) ?_
  refine lv_lushr hx hb dX9_placeOfKey_43 rfl ?_
  rw [show (((-329006962339880987 : Int64).toUInt64 >>> ((nI 52).toInt64.toUInt64 &&& Int64.toUInt64 63)).toInt64 : Int64) = 4022 from by decide +kernel]
  refine lv_l2i hx hb dX9_placeOfKey_44 rfl ?_
  rw [show ((4022 : Int64).toInt32 : Int32) = nI 4022 from by decide +kernel]
  refine lv_istore_n (lv' := [(3, .int (nI 4022)), (1, .long (-6913359390545201007)), (0, .ref (ad 61))]) hx hb dX9_placeOfKey_45 rfl hl (by decide) rfl (fun ls hl => ?_)
  refine lv_iconst (v := nI 0) hx hb dX9_placeOfKey_46 (by decide) ?_
  refine lv_istore (lv' := [(4, .int (nI 0)), (3, .int (nI 4022)), (1, .long (-6913359390545201007)), (0, .ref (ad 61))]) hx hb dX9_placeOfKey_47 hl (by decide) rfl (fun ls hl => ?_)
  refine lv_iload hx hb dX9_placeOfKey_49 (lv_at hl 0 rfl) ?_
  refine lv_sipush (v := nI 4096) hx hb dX9_placeOfKey_51 (by decide) ?_
  refine lv_icmp_ge (tgt := 153) hx hb dX9_placeOfKey_54 (by decide) (fun c_525 => absurd c_525 (by decide)) (fun c_525 => ?_)
  refine lv_aload_n hx hb dX9_placeOfKey_57 rfl (lv_at hl 3 rfl) ?_
  refine va_get (D := E.1) (ci := 9) (v := .ref (ad 63)) (C := RX9) (T := TX9) (N := 18) hx hb hts iX9 hown hK hP 12 rfl rfl 4 (by decide) (hts _ wdF_RX9_15) (fun _ h9 => h9) rfl dX9_placeOfKey_58 ?_
  refine lv_iload_n hx hb dX9_placeOfKey_61 rfl (lv_at hl 1 rfl) ?_
  refine va_sald hx hb hK hP 6 3 rfl rfl (vp_in_nI (by decide) (by decide)) dX9_placeOfKey_62 ?_
  rw [nI_clamp (n := 4022) (by decide)]
  rw [show ((upd (fun _ => 0) 4022 (vp_nar .short (nI 1))) 4022 : Int32) = nI 1 from by decide]
  refine lv_if_eq (tgt := 153) hx hb dX9_placeOfKey_63 (by decide) (fun c_526 => absurd c_526 (by decide)) (fun c_526 => ?_)
  refine lv_aload_n hx hb dX9_placeOfKey_66 rfl (lv_at hl 3 rfl) ?_
  refine va_get (D := E.1) (ci := 9) (v := .ref (ad 63)) (C := RX9) (T := TX9) (N := 18) hx hb hts iX9 hown hK hP 12 rfl rfl 4 (by decide) (hts _ wdF_RX9_15) (fun _ h9 => h9) rfl dX9_placeOfKey_67 ?_
  refine lv_iload_n hx hb dX9_placeOfKey_70 rfl (lv_at hl 1 rfl) ?_
  refine va_sald hx hb hK hP 6 3 rfl rfl (vp_in_nI (by decide) (by decide)) dX9_placeOfKey_71 ?_
  rw [nI_clamp (n := 4022) (by decide)]
  rw [show ((upd (fun _ => 0) 4022 (vp_nar .short (nI 1))) 4022 : Int32) = nI 1 from by decide]
  refine lv_iconst (v := nI 1) hx hb dX9_placeOfKey_72 (by decide) ?_
  refine lv_isub hx hb dX9_placeOfKey_73 ?_
  rw [show ((nI 1) - (nI 1) : Int32) = nI 0 from by decide]
  refine lv_istore (lv' := [(5, .int (nI 0)), (4, .int (nI 0)), (3, .int (nI 4022)), (1, .long (-6913359390545201007)), (0, .ref (ad 61))]) hx hb dX9_placeOfKey_74 hl (by decide) rfl (fun ls hl => ?_)
  refine lv_aload_n hx hb dX9_placeOfKey_76 rfl (lv_at hl 4 rfl) ?_
  refine va_get (D := E.1) (ci := 9) (v := .ref (ad 62)) (C := RX9) (T := TX9) (N := 18) hx hb hts iX9 hown hK hP 12 rfl rfl 3 (by decide) (hts _ wdF_RX9_11) (fun _ h9 => h9) rfl dX9_placeOfKey_77 ?_
  refine lv_iconst (v := nI 3) hx hb dX9_placeOfKey_80 (by decide) ?_
  refine lv_iload hx hb dX9_placeOfKey_81 (lv_at hl 0 rfl) ?_
  refine lv_imul hx hb dX9_placeOfKey_83 ?_
  rw [show ((nI 3) * (nI 0) : Int32) = nI 0 from by decide]
  refine va_lald hx hb hK hP 2 2 rfl rfl (vp_in_nI (by decide) (by decide)) dX9_placeOfKey_84 ?_
  rw [nI_clamp (n := 0) (by decide)]
  rw [show (if 0 < 3 then pkK stN 8 0 else 0 : Int64) = 223150436531576836 from by decide +kernel]
  refine lv_aload_n hx hb dX9_placeOfKey_85 rfl (lv_at hl 4 rfl) ?_
  refine va_get (D := E.1) (ci := 9) (v := .ref (ad 68)) (C := RX9) (T := TX9) (N := 18) hx hb hts iX9 hown hK hP 12 rfl rfl 9 (by decide) (hts _ wdF_RX9_33) (fun _ h9 => h9) rfl dX9_placeOfKey_86 ?_
  refine lv_iconst (v := nI 0) hx hb dX9_placeOfKey_89 (by decide) ?_
  refine va_lald hx hb hK hP 13 2 rfl rfl (vp_in_nI (by decide) (by decide)) dX9_placeOfKey_90 ?_
  rw [nI_clamp (n := 0) (by decide)]
  rw [show ((pkK stN 8) 0 : Int64) = 223150436531576836 from by decide +kernel]
  refine W.lcmp hx hb dX9_placeOfKey_91 ?_
  rw [show (lg_cmp 223150436531576836 223150436531576836 : Int32) = nI 0 from by decide +kernel]
  refine lv_if_ne (tgt := 139) hx hb dX9_placeOfKey_92 (by decide) (fun c_527 => absurd (by decide) c_527) (fun c_527 => ?_)
  refine lv_aload_n hx hb dX9_placeOfKey_95 rfl (lv_at hl 4 rfl) ?_
  refine va_get (D := E.1) (ci := 9) (v := .ref (ad 62)) (C := RX9) (T := TX9) (N := 18) hx hb hts iX9 hown hK hP 12 rfl rfl 3 (by decide) (hts _ wdF_RX9_11) (fun _ h9 => h9) rfl dX9_placeOfKey_96 ?_
  refine lv_iconst (v := nI 3) hx hb dX9_placeOfKey_99 (by decide) ?_
  refine lv_iload hx hb dX9_placeOfKey_100 (lv_at hl 0 rfl) ?_
  refine lv_imul hx hb dX9_placeOfKey_102 ?_
  rw [show ((nI 3) * (nI 0) : Int32) = nI 0 from by decide]
  refine lv_iconst (v := nI 1) hx hb dX9_placeOfKey_103 (by decide) ?_
  refine lv_iadd hx hb dX9_placeOfKey_104 ?_
  rw [show ((nI 0) + (nI 1) : Int32) = nI 1 from by decide]
  refine va_lald hx hb hK hP 2 2 rfl rfl (vp_in_nI (by decide) (by decide)) dX9_placeOfKey_105 ?_
  rw [nI_clamp (n := 1) (by decide)]
  rw [show (if 1 < 3 then pkK stN 8 1 else 0 : Int64) = 66689 from by decide +kernel]
  refine lv_aload_n hx hb dX9_placeOfKey_106 rfl (lv_at hl 4 rfl) ?_
  refine va_get (D := E.1) (ci := 9) (v := .ref (ad 68)) (C := RX9) (T := TX9) (N := 18) hx hb hts iX9 hown hK hP 12 rfl rfl 9 (by decide) (hts _ wdF_RX9_33) (fun _ h9 => h9) rfl dX9_placeOfKey_107 ?_
  refine lv_iconst (v := nI 1) hx hb dX9_placeOfKey_110 (by decide) ?_
  refine va_lald hx hb hK hP 13 2 rfl rfl (vp_in_nI (by decide) (by decide)) dX9_placeOfKey_111 ?_
  rw [nI_clamp (n := 1) (by decide)]
  rw [show ((pkK stN 8) 1 : Int64) = 66689 from by decide +kernel]
  refine W.lcmp hx hb dX9_placeOfKey_112 ?_
  rw [show (lg_cmp 66689 66689 : Int32) = nI 0 from by decide +kernel]
  refine lv_if_ne (tgt := 139) hx hb dX9_placeOfKey_113 (by decide) (fun c_528 => absurd (by decide) c_528) (fun c_528 => ?_)
  refine lv_aload_n hx hb dX9_placeOfKey_116 rfl (lv_at hl 4 rfl) ?_
  refine va_get (D := E.1) (ci := 9) (v := .ref (ad 62)) (C := RX9) (T := TX9) (N := 18) hx hb hts iX9 hown hK hP 12 rfl rfl 3 (by decide) (hts _ wdF_RX9_11) (fun _ h9 => h9) rfl dX9_placeOfKey_117 ?_
  refine lv_iconst (v := nI 3) hx hb dX9_placeOfKey_120 (by decide) ?_
  refine lv_iload hx hb dX9_placeOfKey_121 (lv_at hl 0 rfl) ?_
  refine lv_imul hx hb dX9_placeOfKey_123 ?_
  rw [show ((nI 3) * (nI 0) : Int32) = nI 0 from by decide]
  refine lv_iconst (v := nI 2) hx hb dX9_placeOfKey_124 (by decide) ?_
  refine lv_iadd hx hb dX9_placeOfKey_125 ?_
  rw [show ((nI 0) + (nI 2) : Int32) = nI 2 from by decide]
  refine va_lald hx hb hK hP 2 2 rfl rfl (vp_in_nI (by decide) (by decide)) dX9_placeOfKey_126 ?_
  rw [nI_clamp (n := 2) (by decide)]
  rw [show (if 2 < 3 then pkK stN 8 2 else 0 : Int64) = 0 from by decide +kernel]
  refine lv_aload_n hx hb dX9_placeOfKey_127 rfl (lv_at hl 4 rfl) ?_
  refine va_get (D := E.1) (ci := 9) (v := .ref (ad 68)) (C := RX9) (T := TX9) (N := 18) hx hb hts iX9 hown hK hP 12 rfl rfl 9 (by decide) (hts _ wdF_RX9_33) (fun _ h9 => h9) rfl dX9_placeOfKey_128 ?_
  refine lv_iconst (v := nI 2) hx hb dX9_placeOfKey_131 (by decide) ?_
  refine va_lald hx hb hK hP 13 2 rfl rfl (vp_in_nI (by decide) (by decide)) dX9_placeOfKey_132 ?_
  rw [nI_clamp (n := 2) (by decide)]
  rw [show ((pkK stN 8) 2 : Int64) = 0 from by decide +kernel]
  refine W.lcmp hx hb dX9_placeOfKey_133 ?_
  rw [show (lg_cmp 0 0 : Int32) = nI 0 from by decide +kernel]
  refine lv_if_ne (tgt := 139) hx hb dX9_placeOfKey_134 (by decide) (fun c_529 => absurd (by decide) c_529) (fun c_529 => ?_)
  refine lv_iload_n hx hb dX9_placeOfKey_137 rfl (lv_at hl 2 rfl) ?_
  exact cI_ret F hP hD hS hK () rfl [0, 1, 2, 3, 4, 5, 6, 7, 8, 9, 10, 11, 12, 13, 14] rfl rfl dX9_placeOfKey_138 (by decide) (by decide)
theorem dX9_findRows_0 : decode cX9_findRows 0 = .ok (.aload_n 0, 1) := by decide +kernel
theorem dX9_findRows_1 : decode cX9_findRows 1 = .ok (.iload_n 1, 1) := by decide +kernel
theorem dX9_findRows_2 : decode cX9_findRows 2 = .ok (.putfield 39, 3) := by decide +kernel
theorem dX9_findRows_5 : decode cX9_findRows 5 = .ok (.aload_n 0, 1) := by decide +kernel
theorem dX9_findRows_6 : decode cX9_findRows 6 = .ok (.getfield 27, 3) := by decide +kernel
theorem dX9_findRows_9 : decode cX9_findRows 9 = .ok (.lconst 0, 1) := by decide +kernel
theorem dX9_findRows_10 : decode cX9_findRows 10 = .ok (.invokestatic 131, 3) := by decide +kernel
theorem dX9_findRows_13 : decode cX9_findRows 13 = .ok (.aload_n 0, 1) := by decide +kernel
theorem dX9_findRows_14 : decode cX9_findRows 14 = .ok (.getfield 27, 3) := by decide +kernel
theorem dX9_findRows_17 : decode cX9_findRows 17 = .ok (.iload_n 2, 1) := by decide +kernel
theorem dX9_findRows_18 : decode cX9_findRows 18 = .ok (.lconst 1, 1) := by decide +kernel
theorem dX9_findRows_19 : decode cX9_findRows 19 = .ok (.lastore, 1) := by decide +kernel
theorem dX9_findRows_20 : decode cX9_findRows 20 = .ok (.aload_n 0, 1) := by decide +kernel
theorem dX9_findRows_21 : decode cX9_findRows 21 = .ok (.getfield 30, 3) := by decide +kernel
theorem dX9_findRows_24 : decode cX9_findRows 24 = .ok (.iload_n 2, 1) := by decide +kernel
theorem dX9_findRows_25 : decode cX9_findRows 25 = .ok (.iconst 0, 1) := by decide +kernel
theorem dX9_findRows_26 : decode cX9_findRows 26 = .ok (.iastore, 1) := by decide +kernel
theorem dX9_findRows_27 : decode cX9_findRows 27 = .ok (.iload_n 1, 1) := by decide +kernel
theorem dX9_findRows_28 : decode cX9_findRows 28 = .ok (.iconst 1, 1) := by decide +kernel
theorem dX9_findRows_29 : decode cX9_findRows 29 = .ok (.isub, 1) := by decide +kernel
theorem dX9_findRows_30 : decode cX9_findRows 30 = .ok (.istore_n 3, 1) := by decide +kernel
theorem dX9_findRows_31 : decode cX9_findRows 31 = .ok (.iload_n 3, 1) := by decide +kernel
theorem dX9_findRows_32 : decode cX9_findRows 32 = .ok (.ifCond .lt 43, 3) := by decide +kernel
theorem dX9_findRows_35 : decode cX9_findRows 35 = .ok (.aload_n 0, 1) := by decide +kernel
theorem dX9_findRows_36 : decode cX9_findRows 36 = .ok (.getfield 23, 3) := by decide +kernel
theorem dX9_findRows_39 : decode cX9_findRows 39 = .ok (.iload_n 3, 1) := by decide +kernel
theorem dX9_findRows_40 : decode cX9_findRows 40 = .ok (.iaload, 1) := by decide +kernel
theorem dX9_findRows_41 : decode cX9_findRows 41 = .ok (.istore 4, 2) := by decide +kernel
theorem dX9_findRows_43 : decode cX9_findRows 43 = .ok (.iload 4, 2) := by decide +kernel
theorem dX9_findRows_45 : decode cX9_findRows 45 = .ok (.aload_n 0, 1) := by decide +kernel
theorem dX9_findRows_46 : decode cX9_findRows 46 = .ok (.getfield 23, 3) := by decide +kernel
theorem dX9_findRows_49 : decode cX9_findRows 49 = .ok (.iload_n 3, 1) := by decide +kernel
theorem dX9_findRows_50 : decode cX9_findRows 50 = .ok (.iconst 1, 1) := by decide +kernel
theorem dX9_findRows_51 : decode cX9_findRows 51 = .ok (.iadd, 1) := by decide +kernel
theorem dX9_findRows_52 : decode cX9_findRows 52 = .ok (.iaload, 1) := by decide +kernel
theorem dX9_findRows_53 : decode cX9_findRows 53 = .ok (.if_icmp .ge 16, 3) := by decide +kernel
theorem dX9_findRows_56 : decode cX9_findRows 56 = .ok (.aload_n 0, 1) := by decide +kernel
theorem dX9_findRows_57 : decode cX9_findRows 57 = .ok (.iload 4, 2) := by decide +kernel
theorem dX9_findRows_59 : decode cX9_findRows 59 = .ok (.iload_n 3, 1) := by decide +kernel
theorem dX9_findRows_60 : decode cX9_findRows 60 = .ok (.invokevirtual 147, 3) := by decide +kernel
theorem dX9_findRows_63 : decode cX9_findRows 63 = .ok (.iinc 4 1, 3) := by decide +kernel
theorem dX9_findRows_66 : decode cX9_findRows 66 = .ok (.goto (-23), 3) := by decide +kernel
theorem dX9_findRows_69 : decode cX9_findRows 69 = .ok (.iinc 3 (-1), 3) := by decide +kernel
theorem dX9_findRows_72 : decode cX9_findRows 72 = .ok (.goto (-41), 3) := by decide +kernel
theorem dX9_findRows_75 : decode cX9_findRows 75 = .ok (.return_, 1) := by decide +kernel
abbrev rm_z35_X9_findRows : Room := { frames := 1, cells := 0, slots := 0, locals := 24 }
set_option maxHeartbeats 4000000 in
set_option maxRecDepth 100000 in
theorem z35_X9_findRows (l : Launch) (E : cE) (h0 : Nat) (ad : Nat → Nat) (gx : Nat → Int32) (gy : Nat → Int32) (gf : Nat → Int32) (v2 : Int32) (gt : Nat → Int32) (gh : Nat → Int32) (gc : Nat → Int32) (dp : Nat) (gk : Nat → Int32) (hw1 : flo (stC 0) (2 * 4) gx gy gf) (hw3 : ∀ d, d < 2 * 4 → gt d = 0) (hw4 : ∀ d, d < 2 * 4 → gh d = nI (stC 0 d)) (hw5 : ∀ d, d < 2 * 4 → gc d = nI (stC 0 d)) (hdp : dp ≤ 12) : cM l E yX9_findRows cX9_findRows 5 none rm_z35_X9_findRows [.ref (ad 61), .int (nI 0), .int (nI 0)] [(h0, ob 11 [.ref (ad 0), .ref (ad 7), .ref (ad 28), .ref (ad 30), .ref (ad 76), .ref (ad 46), .ref (ad 55), .ref (ad 57), .ref (ad 59), .ref (ad 61), .ref (ad 80), .int 0, .int 0, .int 0, .int (-1), .int (-1), .int (-1)]), ((ad 65), aI E 15 (upd (upd (fun _ => 0) 0 (nI 0)) 1 (nI 1))), ((ad 62), aJ E 6000 (fun j => if j < 3 then pkK stN 8 j else 0)), ((ad 66), aJ E 2000 (fun _ => 0)), ((ad 67), aI E 2000 (fun _ => 0)), ((ad 7), ob 0 [.ref (ad 8), .ref (ad 10), .ref (ad 12), .ref (ad 14), .ref (ad 15), .ref (ad 16), .ref (ad 17), .ref (ad 18), .ref (ad 19), .ref (ad 20), .ref (ad 21), .ref (ad 22), .ref (ad 23), .ref (ad 24), .ref (ad 25), .ref (ad 26), .int 0, .ref (ad 27), .int 0, .int 0]), ((ad 63), aS E 4096 (upd (fun _ => 0) 4022 (vp_nar .short (nI 1)))), ((ad 76), ob 3 [.ref (ad 77), .ref (ad 78), .ref (ad 79), .ref (ad 71), .ref (ad 72), .ref (ad 73), .ref (ad 74), .ref (ad 75), .int (nI (2 * 4)), .int v2]), ((ad 77), aI E 64 gx), ((ad 78), aI E 64 gy), ((ad 79), aI E 64 gf), ((ad 69), aI E 16 gk), ((ad 61), ob 9 [.ref (ad 7), .ref (ad 30), .ref (ad 46), .ref (ad 62), .ref (ad 63), .ref (ad 64), .ref (ad 65), .ref (ad 66), .ref (ad 67), .ref (ad 68), .ref (ad 69), .int (nI 1), .int 0, .int (nI 1), .int (-1), .ref (ad 70), .int (nI 0), .int (nI 0)]), ((ad 68), aJ E 3 (pkK stN 8)), ((ad 80), aI E 64 gc)] (qV E (fun (_u : Unit) => True) (fun _ => [(h0, ob 11 [.ref (ad 0), .ref (ad 7), .ref (ad 28), .ref (ad 30), .ref (ad 76), .ref (ad 46), .ref (ad 55), .ref (ad 57), .ref (ad 59), .ref (ad 61), .ref (ad 80), .int 0, .int 0, .int 0, .int (-1), .int (-1), .int (-1)]), ((ad 65), aI E 15 (upd (upd (fun _ => 0) 0 (nI 0)) 1 (nI 1))), ((ad 62), aJ E 6000 (fun j => if j < 3 then pkK stN 8 j else 0)), ((ad 67), aI E 2000 (upd (fun _ => 0) 0 (nI 0))), ((ad 7), ob 0 [.ref (ad 8), .ref (ad 10), .ref (ad 12), .ref (ad 14), .ref (ad 15), .ref (ad 16), .ref (ad 17), .ref (ad 18), .ref (ad 19), .ref (ad 20), .ref (ad 21), .ref (ad 22), .ref (ad 23), .ref (ad 24), .ref (ad 25), .ref (ad 26), .int 0, .ref (ad 27), .int 0, .int 0]), ((ad 63), aS E 4096 (upd (fun _ => 0) 4022 (vp_nar .short (nI 1)))), ((ad 76), ob 3 [.ref (ad 77), .ref (ad 78), .ref (ad 79), .ref (ad 71), .ref (ad 72), .ref (ad 73), .ref (ad 74), .ref (ad 75), .int (nI (2 * 4)), .int v2]), ((ad 77), aI E 64 gx), ((ad 78), aI E 64 gy), ((ad 79), aI E 64 gf), ((ad 69), aI E 16 gk), ((ad 61), ob 9 [.ref (ad 7), .ref (ad 30), .ref (ad 46), .ref (ad 62), .ref (ad 63), .ref (ad 64), .ref (ad 65), .ref (ad 66), .ref (ad 67), .ref (ad 68), .ref (ad 69), .int (nI 1), .int 0, .int (nI 1), .int (nI 0), .ref (ad 70), .int (nI 0), .int (nI 0)]), ((ad 68), aJ E 3 (pkK stN 8)), ((ad 80), aI E 64 gc), ((ad 66), aJ E 2000 (vp_updL (fun _ => 0) 0 1))])) := by
  refine cM_of (by decide) (Nat.le_of_ble_eq_true rfl) ?_
  intro p e s m below meth c ls A F hA hS hP hD hK hZ hl
  obtain ⟨hx, hb, hr, hml, hown, hts, hlk, hin⟩ := id F
  have hown : s.vm.findClass RX9 = some m.cls := hown
  have hl : lv_has ls 5 [(0, .ref (ad 61)), (1, .int (nI 0)), (2, .int (nI 0))] := hl
  refine lv_aload_n hx hb dX9_findRows_0 rfl (lv_at hl 0 rfl) ?_
  refine lv_iload_n hx hb dX9_findRows_1 rfl (lv_at hl 1 rfl) ?_
  refine va_put (D := E.1) (ci := 9) (v := .int (nI 0)) (ty := .int) (C := RX9) (T := TX9) (N := 18) hx hb hts iX9 tyX9 tyX9_ok nmX9 hown hK hP hD hS 12 rfl rfl 14 (by decide) (hts _ wdF_RX9_39) (fun _ h9 => h9) rfl (by decide +kernel) rfl rfl (Nat.le_of_ble_eq_true rfl) dX9_findRows_2 (fun H locs hP hD hS => ?_)
  have hP : va_P E.1 vwCl [(h0, ob 11 [.ref (ad 0), .ref (ad 7), .ref (ad 28), .ref (ad 30), .ref (ad 76), .ref (ad 46), .ref (ad 55), .ref (ad 57), .ref (ad 59), .ref (ad 61), .ref (ad 80), .int 0, .int 0, .int 0, .int (-1), .int (-1), .int (-1)]), ((ad 65), aI E 15 (upd (upd (fun _ => 0) 0 (nI 0)) 1 (nI 1))), ((ad 62), aJ E 6000 (fun j => if j < 3 then pkK stN 8 j else 0)), ((ad 66), aJ E 2000 (fun _ => 0)), ((ad 67), aI E 2000 (fun _ => 0)), ((ad 7), ob 0 [.ref (ad 8), .ref (ad 10), .ref (ad 12), .ref (ad 14), .ref (ad 15), .ref (ad 16), .ref (ad 17), .ref (ad 18), .ref (ad 19), .ref (ad 20), .ref (ad 21), .ref (ad 22), .ref (ad 23), .ref (ad 24), .ref (ad 25), .ref (ad 26), .int 0, .ref (ad 27), .int 0, .int 0]), ((ad 63), aS E 4096 (upd (fun _ => 0) 4022 (vp_nar .short (nI 1)))), ((ad 76), ob 3 [.ref (ad 77), .ref (ad 78), .ref (ad 79), .ref (ad 71), .ref (ad 72), .ref (ad 73), .ref (ad 74), .ref (ad 75), .int (nI (2 * 4)), .int v2]), ((ad 77), aI E 64 gx), ((ad 78), aI E 64 gy), ((ad 79), aI E 64 gf), ((ad 69), aI E 16 gk), ((ad 61), ob 9 [.ref (ad 7), .ref (ad 30), .ref (ad 46), .ref (ad 62), .ref (ad 63), .ref (ad 64), .ref (ad 65), .ref (ad 66), .ref (ad 67), .ref (ad 68), .ref (ad 69), .int (nI 1), .int 0, .int (nI 1), .int (nI 0), .ref (ad 70), .int (nI 0), .int (nI 0)]), ((ad 68), aJ E 3 (pkK stN 8)), ((ad 80), aI E 64 gc)] H := hP
  have hD : va_D A [(h0, ob 11 [.ref (ad 0), .ref (ad 7), .ref (ad 28), .ref (ad 30), .ref (ad 76), .ref (ad 46), .ref (ad 55), .ref (ad 57), .ref (ad 59), .ref (ad 61), .ref (ad 80), .int 0, .int 0, .int 0, .int (-1), .int (-1), .int (-1)]), ((ad 65), aI E 15 (upd (upd (fun _ => 0) 0 (nI 0)) 1 (nI 1))), ((ad 62), aJ E 6000 (fun j => if j < 3 then pkK stN 8 j else 0)), ((ad 66), aJ E 2000 (fun _ => 0)), ((ad 67), aI E 2000 (fun _ => 0)), ((ad 7), ob 0 [.ref (ad 8), .ref (ad 10), .ref (ad 12), .ref (ad 14), .ref (ad 15), .ref (ad 16), .ref (ad 17), .ref (ad 18), .ref (ad 19), .ref (ad 20), .ref (ad 21), .ref (ad 22), .ref (ad 23), .ref (ad 24), .ref (ad 25), .ref (ad 26), .int 0, .ref (ad 27), .int 0, .int 0]), ((ad 63), aS E 4096 (upd (fun _ => 0) 4022 (vp_nar .short (nI 1)))), ((ad 76), ob 3 [.ref (ad 77), .ref (ad 78), .ref (ad 79), .ref (ad 71), .ref (ad 72), .ref (ad 73), .ref (ad 74), .ref (ad 75), .int (nI (2 * 4)), .int v2]), ((ad 77), aI E 64 gx), ((ad 78), aI E 64 gy), ((ad 79), aI E 64 gf), ((ad 69), aI E 16 gk), ((ad 61), ob 9 [.ref (ad 7), .ref (ad 30), .ref (ad 46), .ref (ad 62), .ref (ad 63), .ref (ad 64), .ref (ad 65), .ref (ad 66), .ref (ad 67), .ref (ad 68), .ref (ad 69), .int (nI 1), .int 0, .int (nI 1), .int (nI 0), .ref (ad 70), .int (nI 0), .int (nI 0)]), ((ad 68), aJ E 3 (pkK stN 8)), ((ad 80), aI E 64 gc)] := hD
  refine lv_aload_n hx hb dX9_findRows_5 rfl (lv_at hl 0 rfl) ?_
  refine va_get (D := E.1) (ci := 9) (v := .ref (ad 66)) (C := RX9) (T := TX9) (N := 18) hx hb hts iX9 hown hK hP 12 rfl rfl 7 (by decide) (hts _ wdF_RX9_27) (fun _ h9 => h9) rfl dX9_findRows_6 ?_
  refine lv_lconst (v := 0) hx hb dX9_findRows_9 (by decide) ?_
  refine cV_go (wr := [(h0, ob 11 [.ref (ad 0), .ref (ad 7), .ref (ad 28), .ref (ad 30), .ref (ad 76), .ref (ad 46), .ref (ad 55), .ref (ad 57), .ref (ad 59), .ref (ad 61), .ref (ad 80), .int 0, .int 0, .int 0, .int (-1), .int (-1), .int (-1)]), ((ad 65), aI E 15 (upd (upd (fun _ => 0) 0 (nI 0)) 1 (nI 1))), ((ad 62), aJ E 6000 (fun j => if j < 3 then pkK stN 8 j else 0)), ((ad 67), aI E 2000 (fun _ => 0)), ((ad 7), ob 0 [.ref (ad 8), .ref (ad 10), .ref (ad 12), .ref (ad 14), .ref (ad 15), .ref (ad 16), .ref (ad 17), .ref (ad 18), .ref (ad 19), .ref (ad 20), .ref (ad 21), .ref (ad 22), .ref (ad 23), .ref (ad 24), .ref (ad 25), .ref (ad 26), .int 0, .ref (ad 27), .int 0, .int 0]), ((ad 63), aS E 4096 (upd (fun _ => 0) 4022 (vp_nar .short (nI 1)))), ((ad 76), ob 3 [.ref (ad 77), .ref (ad 78), .ref (ad 79), .ref (ad 71), .ref (ad 72), .ref (ad 73), .ref (ad 74), .ref (ad 75), .int (nI (2 * 4)), .int v2]), ((ad 77), aI E 64 gx), ((ad 78), aI E 64 gy), ((ad 79), aI E 64 gf), ((ad 69), aI E 16 gk), ((ad 61), ob 9 [.ref (ad 7), .ref (ad 30), .ref (ad 46), .ref (ad 62), .ref (ad 63), .ref (ad 64), .ref (ad 65), .ref (ad 66), .ref (ad 67), .ref (ad 68), .ref (ad 69), .int (nI 1), .int 0, .int (nI 1), .int (nI 0), .ref (ad 70), .int (nI 0), .int (nI 0)]), ((ad 68), aJ E 3 (pkK stN 8)), ((ad 80), aI E 64 gc)]) (cM_runS (As := [.ref (ad 66), .long 0]) (rest := []) F (c_J7_fill_d0a16 l E (ad 66) 2000 (fun _ => 0) 0 (by decide)) yy_J7_fill_d0a16 wdT_J7_fill_d0a16 wdM_RX9_131 hP hD hS hK hZ hA [3] rfl rfl rfl hl.1 rfl (Nat.le_of_ble_eq_true rfl) dX9_findRows_10 ⟨by decide, by decide⟩ ⟨by decide, by decide⟩) hP hD hS hA [3] [0, 1, 2, 4, 5, 6, 7, 8, 9, 10, 11, 12, 13, 14] rfl rfl rfl (by decide) (fun u_535 H locs hw_534 hP hD hS => ?_)
  obtain ⟨gww, rfl⟩ : ∃ z, z = u_535 := ⟨_, rfl⟩
  try dsimp only at hw_534
  have hP : va_P E.1 vwCl [(h0, ob 11 [.ref (ad 0), .ref (ad 7), .ref (ad 28), .ref (ad 30), .ref (ad 76), .ref (ad 46), .ref (ad 55), .ref (ad 57), .ref (ad 59), .ref (ad 61), .ref (ad 80), .int 0, .int 0, .int 0, .int (-1), .int (-1), .int (-1)]), ((ad 65), aI E 15 (upd (upd (fun _ => 0) 0 (nI 0)) 1 (nI 1))), ((ad 62), aJ E 6000 (fun j => if j < 3 then pkK stN 8 j else 0)), ((ad 67), aI E 2000 (fun _ => 0)), ((ad 7), ob 0 [.ref (ad 8), .ref (ad 10), .ref (ad 12), .ref (ad 14), .ref (ad 15), .ref (ad 16), .ref (ad 17), .ref (ad 18), .ref (ad 19), .ref (ad 20), .ref (ad 21), .ref (ad 22), .ref (ad 23), .ref (ad 24), .ref (ad 25), .ref (ad 26), .int 0, .ref (ad 27), .int 0, .int 0]), ((ad 63), aS E 4096 (upd (fun _ => 0) 4022 (vp_nar .short (nI 1)))), ((ad 76), ob 3 [.ref (ad 77), .ref (ad 78), .ref (ad 79), .ref (ad 71), .ref (ad 72), .ref (ad 73), .ref (ad 74), .ref (ad 75), .int (nI (2 * 4)), .int v2]), ((ad 77), aI E 64 gx), ((ad 78), aI E 64 gy), ((ad 79), aI E 64 gf), ((ad 69), aI E 16 gk), ((ad 61), ob 9 [.ref (ad 7), .ref (ad 30), .ref (ad 46), .ref (ad 62), .ref (ad 63), .ref (ad 64), .ref (ad 65), .ref (ad 66), .ref (ad 67), .ref (ad 68), .ref (ad 69), .int (nI 1), .int 0, .int (nI 1), .int (nI 0), .ref (ad 70), .int (nI 0), .int (nI 0)]), ((ad 68), aJ E 3 (pkK stN 8)), ((ad 80), aI E 64 gc), ((ad 66), aJ E 2000 gww)] H := hP
  have hD : va_D A [(h0, ob 11 [.ref (ad 0), .ref (ad 7), .ref (ad 28), .ref (ad 30), .ref (ad 76), .ref (ad 46), .ref (ad 55), .ref (ad 57), .ref (ad 59), .ref (ad 61), .ref (ad 80), .int 0, .int 0, .int 0, .int (-1), .int (-1), .int (-1)]), ((ad 65), aI E 15 (upd (upd (fun _ => 0) 0 (nI 0)) 1 (nI 1))), ((ad 62), aJ E 6000 (fun j => if j < 3 then pkK stN 8 j else 0)), ((ad 67), aI E 2000 (fun _ => 0)), ((ad 7), ob 0 [.ref (ad 8), .ref (ad 10), .ref (ad 12), .ref (ad 14), .ref (ad 15), .ref (ad 16), .ref (ad 17), .ref (ad 18), .ref (ad 19), .ref (ad 20), .ref (ad 21), .ref (ad 22), .ref (ad 23), .ref (ad 24), .ref (ad 25), .ref (ad 26), .int 0, .ref (ad 27), .int 0, .int 0]), ((ad 63), aS E 4096 (upd (fun _ => 0) 4022 (vp_nar .short (nI 1)))), ((ad 76), ob 3 [.ref (ad 77), .ref (ad 78), .ref (ad 79), .ref (ad 71), .ref (ad 72), .ref (ad 73), .ref (ad 74), .ref (ad 75), .int (nI (2 * 4)), .int v2]), ((ad 77), aI E 64 gx), ((ad 78), aI E 64 gy), ((ad 79), aI E 64 gf), ((ad 69), aI E 16 gk), ((ad 61), ob 9 [.ref (ad 7), .ref (ad 30), .ref (ad 46), .ref (ad 62), .ref (ad 63), .ref (ad 64), .ref (ad 65), .ref (ad 66), .ref (ad 67), .ref (ad 68), .ref (ad 69), .int (nI 1), .int 0, .int (nI 1), .int (nI 0), .ref (ad 70), .int (nI 0), .int (nI 0)]), ((ad 68), aJ E 3 (pkK stN 8)), ((ad 80), aI E 64 gc), ((ad 66), aJ E 2000 gww)] := hD
  obtain ⟨hP, hD⟩ := cw_extJ (g := (fun _ => 0)) hP hD 14 rfl (fun j hj => hw_534 j hj)
  have hP : va_P E.1 vwCl [(h0, ob 11 [.ref (ad 0), .ref (ad 7), .ref (ad 28), .ref (ad 30), .ref (ad 76), .ref (ad 46), .ref (ad 55), .ref (ad 57), .ref (ad 59), .ref (ad 61), .ref (ad 80), .int 0, .int 0, .int 0, .int (-1), .int (-1), .int (-1)]), ((ad 65), aI E 15 (upd (upd (fun _ => 0) 0 (nI 0)) 1 (nI 1))), ((ad 62), aJ E 6000 (fun j => if j < 3 then pkK stN 8 j else 0)), ((ad 67), aI E 2000 (fun _ => 0)), ((ad 7), ob 0 [.ref (ad 8), .ref (ad 10), .ref (ad 12), .ref (ad 14), .ref (ad 15), .ref (ad 16), .ref (ad 17), .ref (ad 18), .ref (ad 19), .ref (ad 20), .ref (ad 21), .ref (ad 22), .ref (ad 23), .ref (ad 24), .ref (ad 25), .ref (ad 26), .int 0, .ref (ad 27), .int 0, .int 0]), ((ad 63), aS E 4096 (upd (fun _ => 0) 4022 (vp_nar .short (nI 1)))), ((ad 76), ob 3 [.ref (ad 77), .ref (ad 78), .ref (ad 79), .ref (ad 71), .ref (ad 72), .ref (ad 73), .ref (ad 74), .ref (ad 75), .int (nI (2 * 4)), .int v2]), ((ad 77), aI E 64 gx), ((ad 78), aI E 64 gy), ((ad 79), aI E 64 gf), ((ad 69), aI E 16 gk), ((ad 61), ob 9 [.ref (ad 7), .ref (ad 30), .ref (ad 46), .ref (ad 62), .ref (ad 63), .ref (ad 64), .ref (ad 65), .ref (ad 66), .ref (ad 67), .ref (ad 68), .ref (ad 69), .int (nI 1), .int 0, .int (nI 1), .int (nI 0), .ref (ad 70), .int (nI 0), .int (nI 0)]), ((ad 68), aJ E 3 (pkK stN 8)), ((ad 80), aI E 64 gc), ((ad 66), aJ E 2000 (fun _ => 0))] H := hP
  have hD : va_D A [(h0, ob 11 [.ref (ad 0), .ref (ad 7), .ref (ad 28), .ref (ad 30), .ref (ad 76), .ref (ad 46), .ref (ad 55), .ref (ad 57), .ref (ad 59), .ref (ad 61), .ref (ad 80), .int 0, .int 0, .int 0, .int (-1), .int (-1), .int (-1)]), ((ad 65), aI E 15 (upd (upd (fun _ => 0) 0 (nI 0)) 1 (nI 1))), ((ad 62), aJ E 6000 (fun j => if j < 3 then pkK stN 8 j else 0)), ((ad 67), aI E 2000 (fun _ => 0)), ((ad 7), ob 0 [.ref (ad 8), .ref (ad 10), .ref (ad 12), .ref (ad 14), .ref (ad 15), .ref (ad 16), .ref (ad 17), .ref (ad 18), .ref (ad 19), .ref (ad 20), .ref (ad 21), .ref (ad 22), .ref (ad 23), .ref (ad 24), .ref (ad 25), .ref (ad 26), .int 0, .ref (ad 27), .int 0, .int 0]), ((ad 63), aS E 4096 (upd (fun _ => 0) 4022 (vp_nar .short (nI 1)))), ((ad 76), ob 3 [.ref (ad 77), .ref (ad 78), .ref (ad 79), .ref (ad 71), .ref (ad 72), .ref (ad 73), .ref (ad 74), .ref (ad 75), .int (nI (2 * 4)), .int v2]), ((ad 77), aI E 64 gx), ((ad 78), aI E 64 gy), ((ad 79), aI E 64 gf), ((ad 69), aI E 16 gk), ((ad 61), ob 9 [.ref (ad 7), .ref (ad 30), .ref (ad 46), .ref (ad 62), .ref (ad 63), .ref (ad 64), .ref (ad 65), .ref (ad 66), .ref (ad 67), .ref (ad 68), .ref (ad 69), .int (nI 1), .int 0, .int (nI 1), .int (nI 0), .ref (ad 70), .int (nI 0), .int (nI 0)]), ((ad 68), aJ E 3 (pkK stN 8)), ((ad 80), aI E 64 gc), ((ad 66), aJ E 2000 (fun _ => 0))] := hD
  refine lv_aload_n hx hb dX9_findRows_13 rfl (lv_at hl 0 rfl) ?_
  refine va_get (D := E.1) (ci := 9) (v := .ref (ad 66)) (C := RX9) (T := TX9) (N := 18) hx hb hts iX9 hown hK hP 11 rfl rfl 7 (by decide) (hts _ wdF_RX9_27) (fun _ h9 => h9) rfl dX9_findRows_14 ?_
  refine lv_iload_n hx hb dX9_findRows_17 rfl (lv_at hl 2 rfl) ?_
  refine lv_lconst (v := 1) hx hb dX9_findRows_18 (by decide) ?_
  refine va_last hx hb hK hP hD hS 14 2 rfl rfl (vp_in_nI (by decide) (by decide)) dX9_findRows_19 (fun H locs hP hD hS => ?_)
  have hP : va_P E.1 vwCl [(h0, ob 11 [.ref (ad 0), .ref (ad 7), .ref (ad 28), .ref (ad 30), .ref (ad 76), .ref (ad 46), .ref (ad 55), .ref (ad 57), .ref (ad 59), .ref (ad 61), .ref (ad 80), .int 0, .int 0, .int 0, .int (-1), .int (-1), .int (-1)]), ((ad 65), aI E 15 (upd (upd (fun _ => 0) 0 (nI 0)) 1 (nI 1))), ((ad 62), aJ E 6000 (fun j => if j < 3 then pkK stN 8 j else 0)), ((ad 67), aI E 2000 (fun _ => 0)), ((ad 7), ob 0 [.ref (ad 8), .ref (ad 10), .ref (ad 12), .ref (ad 14), .ref (ad 15), .ref (ad 16), .ref (ad 17), .ref (ad 18), .ref (ad 19), .ref (ad 20), .ref (ad 21), .ref (ad 22), .ref (ad 23), .ref (ad 24), .ref (ad 25), .ref (ad 26), .int 0, .ref (ad 27), .int 0, .int 0]), ((ad 63), aS E 4096 (upd (fun _ => 0) 4022 (vp_nar .short (nI 1)))), ((ad 76), ob 3 [.ref (ad 77), .ref (ad 78), .ref (ad 79), .ref (ad 71), .ref (ad 72), .ref (ad 73), .ref (ad 74), .ref (ad 75), .int (nI (2 * 4)), .int v2]), ((ad 77), aI E 64 gx), ((ad 78), aI E 64 gy), ((ad 79), aI E 64 gf), ((ad 69), aI E 16 gk), ((ad 61), ob 9 [.ref (ad 7), .ref (ad 30), .ref (ad 46), .ref (ad 62), .ref (ad 63), .ref (ad 64), .ref (ad 65), .ref (ad 66), .ref (ad 67), .ref (ad 68), .ref (ad 69), .int (nI 1), .int 0, .int (nI 1), .int (nI 0), .ref (ad 70), .int (nI 0), .int (nI 0)]), ((ad 68), aJ E 3 (pkK stN 8)), ((ad 80), aI E 64 gc), ((ad 66), aJ E 2000 (vp_updL (fun _ => 0) (nI 0).toNatClampNeg 1))] H := hP
  have hD : va_D A [(h0, ob 11 [.ref (ad 0), .ref (ad 7), .ref (ad 28), .ref (ad 30), .ref (ad 76), .ref (ad 46), .ref (ad 55), .ref (ad 57), .ref (ad 59), .ref (ad 61), .ref (ad 80), .int 0, .int 0, .int 0, .int (-1), .int (-1), .int (-1)]), ((ad 65), aI E 15 (upd (upd (fun _ => 0) 0 (nI 0)) 1 (nI 1))), ((ad 62), aJ E 6000 (fun j => if j < 3 then pkK stN 8 j else 0)), ((ad 67), aI E 2000 (fun _ => 0)), ((ad 7), ob 0 [.ref (ad 8), .ref (ad 10), .ref (ad 12), .ref (ad 14), .ref (ad 15), .ref (ad 16), .ref (ad 17), .ref (ad 18), .ref (ad 19), .ref (ad 20), .ref (ad 21), .ref (ad 22), .ref (ad 23), .ref (ad 24), .ref (ad 25), .ref (ad 26), .int 0, .ref (ad 27), .int 0, .int 0]), ((ad 63), aS E 4096 (upd (fun _ => 0) 4022 (vp_nar .short (nI 1)))), ((ad 76), ob 3 [.ref (ad 77), .ref (ad 78), .ref (ad 79), .ref (ad 71), .ref (ad 72), .ref (ad 73), .ref (ad 74), .ref (ad 75), .int (nI (2 * 4)), .int v2]), ((ad 77), aI E 64 gx), ((ad 78), aI E 64 gy), ((ad 79), aI E 64 gf), ((ad 69), aI E 16 gk), ((ad 61), ob 9 [.ref (ad 7), .ref (ad 30), .ref (ad 46), .ref (ad 62), .ref (ad 63), .ref (ad 64), .ref (ad 65), .ref (ad 66), .ref (ad 67), .ref (ad 68), .ref (ad 69), .int (nI 1), .int 0, .int (nI 1), .int (nI 0), .ref (ad 70), .int (nI 0), .int (nI 0)]), ((ad 68), aJ E 3 (pkK stN 8)), ((ad 80), aI E 64 gc), ((ad 66), aJ E 2000 (vp_updL (fun _ => 0) (nI 0).toNatClampNeg 1))] := hD
  rw [nI_clamp (n := 0) (by decide)] at hP hD
  refine lv_aload_n hx hb dX9_findRows_20 rfl (lv_at hl 0 rfl) ?_
  refine va_get (D := E.1) (ci := 9) (v := .ref (ad 67)) (C := RX9) (T := TX9) (N := 18) hx hb hts iX9 hown hK hP 11 rfl rfl 8 (by decide) (hts _ wdF_RX9_30) (fun _ h9 => h9) rfl dX9_findRows_21 ?_
  refine lv_iload_n hx hb dX9_findRows_24 rfl (lv_at hl 2 rfl) ?_
  refine lv_iconst (v := nI 0) hx hb dX9_findRows_25 (by decide) ?_
  refine va_iast hx hb hK hP hD hS 3 1 rfl rfl (vp_in_nI (by decide) (by decide)) dX9_findRows_26 (fun H locs hP hD hS => ?_)
  have hP : va_P E.1 vwCl [(h0, ob 11 [.ref (ad 0), .ref (ad 7), .ref (ad 28), .ref (ad 30), .ref (ad 76), .ref (ad 46), .ref (ad 55), .ref (ad 57), .ref (ad 59), .ref (ad 61), .ref (ad 80), .int 0, .int 0, .int 0, .int (-1), .int (-1), .int (-1)]), ((ad 65), aI E 15 (upd (upd (fun _ => 0) 0 (nI 0)) 1 (nI 1))), ((ad 62), aJ E 6000 (fun j => if j < 3 then pkK stN 8 j else 0)), ((ad 67), aI E 2000 (upd (fun _ => 0) (nI 0).toNatClampNeg (nI 0))), ((ad 7), ob 0 [.ref (ad 8), .ref (ad 10), .ref (ad 12), .ref (ad 14), .ref (ad 15), .ref (ad 16), .ref (ad 17), .ref (ad 18), .ref (ad 19), .ref (ad 20), .ref (ad 21), .ref (ad 22), .ref (ad 23), .ref (ad 24), .ref (ad 25), .ref (ad 26), .int 0, .ref (ad 27), .int 0, .int 0]), ((ad 63), aS E 4096 (upd (fun _ => 0) 4022 (vp_nar .short (nI 1)))), ((ad 76), ob 3 [.ref (ad 77), .ref (ad 78), .ref (ad 79), .ref (ad 71), .ref (ad 72), .ref (ad 73), .ref (ad 74), .ref (ad 75), .int (nI (2 * 4)), .int v2]), ((ad 77), aI E 64 gx), ((ad 78), aI E 64 gy), ((ad 79), aI E 64 gf), ((ad 69), aI E 16 gk), ((ad 61), ob 9 [.ref (ad 7), .ref (ad 30), .ref (ad 46), .ref (ad 62), .ref (ad 63), .ref (ad 64), .ref (ad 65), .ref (ad 66), .ref (ad 67), .ref (ad 68), .ref (ad 69), .int (nI 1), .int 0, .int (nI 1), .int (nI 0), .ref (ad 70), .int (nI 0), .int (nI 0)]), ((ad 68), aJ E 3 (pkK stN 8)), ((ad 80), aI E 64 gc), ((ad 66), aJ E 2000 (vp_updL (fun _ => 0) 0 1))] H := hP
  have hD : va_D A [(h0, ob 11 [.ref (ad 0), .ref (ad 7), .ref (ad 28), .ref (ad 30), .ref (ad 76), .ref (ad 46), .ref (ad 55), .ref (ad 57), .ref (ad 59), .ref (ad 61), .ref (ad 80), .int 0, .int 0, .int 0, .int (-1), .int (-1), .int (-1)]), ((ad 65), aI E 15 (upd (upd (fun _ => 0) 0 (nI 0)) 1 (nI 1))), ((ad 62), aJ E 6000 (fun j => if j < 3 then pkK stN 8 j else 0)), ((ad 67), aI E 2000 (upd (fun _ => 0) (nI 0).toNatClampNeg (nI 0))), ((ad 7), ob 0 [.ref (ad 8), .ref (ad 10), .ref (ad 12), .ref (ad 14), .ref (ad 15), .ref (ad 16), .ref (ad 17), .ref (ad 18), .ref (ad 19), .ref (ad 20), .ref (ad 21), .ref (ad 22), .ref (ad 23), .ref (ad 24), .ref (ad 25), .ref (ad 26), .int 0, .ref (ad 27), .int 0, .int 0]), ((ad 63), aS E 4096 (upd (fun _ => 0) 4022 (vp_nar .short (nI 1)))), ((ad 76), ob 3 [.ref (ad 77), .ref (ad 78), .ref (ad 79), .ref (ad 71), .ref (ad 72), .ref (ad 73), .ref (ad 74), .ref (ad 75), .int (nI (2 * 4)), .int v2]), ((ad 77), aI E 64 gx), ((ad 78), aI E 64 gy), ((ad 79), aI E 64 gf), ((ad 69), aI E 16 gk), ((ad 61), ob 9 [.ref (ad 7), .ref (ad 30), .ref (ad 46), .ref (ad 62), .ref (ad 63), .ref (ad 64), .ref (ad 65), .ref (ad 66), .ref (ad 67), .ref (ad 68), .ref (ad 69), .int (nI 1), .int 0, .int (nI 1), .int (nI 0), .ref (ad 70), .int (nI 0), .int (nI 0)]), ((ad 68), aJ E 3 (pkK stN 8)), ((ad 80), aI E 64 gc), ((ad 66), aJ E 2000 (vp_updL (fun _ => 0) 0 1))] := hD
  rw [nI_clamp (n := 0) (by decide)] at hP hD
  refine lv_iload_n hx hb dX9_findRows_27 rfl (lv_at hl 1 rfl) ?_
  refine lv_iconst (v := nI 1) hx hb dX9_findRows_28 (by decide) ?_
  refine lv_isub hx hb dX9_findRows_29 ?_
  rw [show ((nI 0) - (nI 1) : Int32) = (-1) from by decide]
  refine lv_istore_n (lv' := [(3, .int (-1)), (0, .ref (ad 61)), (1, .int (nI 0)), (2, .int (nI 0))]) hx hb dX9_findRows_30 rfl hl (by decide) rfl (fun ls hl => ?_)
  refine lv_iload_n hx hb dX9_findRows_31 rfl (lv_at hl 0 rfl) ?_
  refine lv_if_lt (tgt := 75) hx hb dX9_findRows_32 (by decide) (fun c_537 => ?_) (fun c_537 => absurd (by decide) c_537)
  exact cV_ret F hP hD hS hK () trivial [0, 1, 2, 3, 4, 5, 6, 7, 8, 9, 10, 11, 12, 13, 14] rfl rfl dX9_findRows_75 (by decide) (by decide)
theorem yy_X9_findRows : cY yX9_findRows cX9_findRows 5 none 2 := ⟨wdK_X9_findRows, wdZ_RX9, by decide +kernel⟩
theorem yi_X9_findRows : cYi yX9_findRows := ⟨wdN_X9_findRows, wdS_X9_findRows⟩
theorem dX9_explore_0 : decode cX9_explore 0 = .ok (.aload_n 0, 1) := by decide +kernel
theorem dX9_explore_1 : decode cX9_explore 1 = .ok (.invokevirtual 65, 3) := by decide +kernel
theorem dX9_explore_4 : decode cX9_explore 4 = .ok (.aload_n 0, 1) := by decide +kernel
theorem dX9_explore_5 : decode cX9_explore 5 = .ok (.getfield 15, 3) := by decide +kernel
theorem dX9_explore_8 : decode cX9_explore 8 = .ok (.iconst 0, 1) := by decide +kernel
theorem dX9_explore_9 : decode cX9_explore 9 = .ok (.invokestatic 68, 3) := by decide +kernel
theorem dX9_explore_12 : decode cX9_explore 12 = .ok (.aload_n 0, 1) := by decide +kernel
theorem dX9_explore_13 : decode cX9_explore 13 = .ok (.iconst 0, 1) := by decide +kernel
theorem dX9_explore_14 : decode cX9_explore 14 = .ok (.putfield 74, 3) := by decide +kernel
theorem dX9_explore_17 : decode cX9_explore 17 = .ok (.aload_n 0, 1) := by decide +kernel
theorem dX9_explore_18 : decode cX9_explore 18 = .ok (.aload_n 0, 1) := by decide +kernel
theorem dX9_explore_19 : decode cX9_explore 19 = .ok (.getfield 46, 3) := by decide +kernel
theorem dX9_explore_22 : decode cX9_explore 22 = .ok (.getfield 77, 3) := by decide +kernel
theorem dX9_explore_25 : decode cX9_explore 25 = .ok (.putfield 82, 3) := by decide +kernel
theorem dX9_explore_28 : decode cX9_explore 28 = .ok (.aload_n 0, 1) := by decide +kernel
theorem dX9_explore_29 : decode cX9_explore 29 = .ok (.getfield 23, 3) := by decide +kernel
theorem dX9_explore_32 : decode cX9_explore 32 = .ok (.iconst 0, 1) := by decide +kernel
theorem dX9_explore_33 : decode cX9_explore 33 = .ok (.iconst 0, 1) := by decide +kernel
theorem dX9_explore_34 : decode cX9_explore 34 = .ok (.iastore, 1) := by decide +kernel
theorem dX9_explore_35 : decode cX9_explore 35 = .ok (.aload_n 2, 1) := by decide +kernel
theorem dX9_explore_36 : decode cX9_explore 36 = .ok (.aload_n 0, 1) := by decide +kernel
theorem dX9_explore_37 : decode cX9_explore 37 = .ok (.getfield 36, 3) := by decide +kernel
theorem dX9_explore_40 : decode cX9_explore 40 = .ok (.invokevirtual 85, 3) := by decide +kernel
theorem dX9_explore_43 : decode cX9_explore 43 = .ok (.aload_n 0, 1) := by decide +kernel
theorem dX9_explore_44 : decode cX9_explore 44 = .ok (.aload_n 0, 1) := by decide +kernel
theorem dX9_explore_45 : decode cX9_explore 45 = .ok (.getfield 36, 3) := by decide +kernel
theorem dX9_explore_48 : decode cX9_explore 48 = .ok (.aload_n 2, 1) := by decide +kernel
theorem dX9_explore_49 : decode cX9_explore 49 = .ok (.getfield 91, 3) := by decide +kernel
theorem dX9_explore_52 : decode cX9_explore 52 = .ok (.invokevirtual 92, 3) := by decide +kernel
theorem dX9_explore_55 : decode cX9_explore 55 = .ok (.aload_n 0, 1) := by decide +kernel
theorem dX9_explore_56 : decode cX9_explore 56 = .ok (.invokevirtual 96, 3) := by decide +kernel
theorem dX9_explore_59 : decode cX9_explore 59 = .ok (.ifCond .ge 6, 3) := by decide +kernel
theorem dX9_explore_62 : decode cX9_explore 62 = .ok (.bipush (-2), 2) := by decide +kernel
theorem dX9_explore_64 : decode cX9_explore 64 = .ok (.ireturn, 1) := by decide +kernel
theorem dX9_explore_65 : decode cX9_explore 65 = .ok (.aload_n 0, 1) := by decide +kernel
theorem dX9_explore_66 : decode cX9_explore 66 = .ok (.getfield 23, 3) := by decide +kernel
theorem dX9_explore_69 : decode cX9_explore 69 = .ok (.iconst 1, 1) := by decide +kernel
theorem dX9_explore_70 : decode cX9_explore 70 = .ok (.aload_n 0, 1) := by decide +kernel
theorem dX9_explore_71 : decode cX9_explore 71 = .ok (.getfield 74, 3) := by decide +kernel
theorem dX9_explore_74 : decode cX9_explore 74 = .ok (.iastore, 1) := by decide +kernel
theorem dX9_explore_75 : decode cX9_explore 75 = .ok (.iconst 0, 1) := by decide +kernel
theorem dX9_explore_76 : decode cX9_explore 76 = .ok (.istore 4, 2) := by decide +kernel
theorem dX9_explore_78 : decode cX9_explore 78 = .ok (.iload 4, 2) := by decide +kernel
theorem dX9_explore_80 : decode cX9_explore 80 = .ok (.iload_n 1, 1) := by decide +kernel
theorem dX9_explore_81 : decode cX9_explore 81 = .ok (.if_icmp .gt 92, 3) := by decide +kernel
theorem dX9_explore_84 : decode cX9_explore 84 = .ok (.iload 4, 2) := by decide +kernel
theorem dX9_explore_86 : decode cX9_explore 86 = .ok (.bipush 12, 2) := by decide +kernel
theorem dX9_explore_88 : decode cX9_explore 88 = .ok (.if_icmp .gt 85, 3) := by decide +kernel
theorem dX9_explore_91 : decode cX9_explore 91 = .ok (.aload_n 0, 1) := by decide +kernel
theorem dX9_explore_92 : decode cX9_explore 92 = .ok (.aload_n 3, 1) := by decide +kernel
theorem dX9_explore_93 : decode cX9_explore 93 = .ok (.aload_n 2, 1) := by decide +kernel
theorem dX9_explore_94 : decode cX9_explore 94 = .ok (.getfield 91, 3) := by decide +kernel
theorem dX9_explore_97 : decode cX9_explore 97 = .ok (.invokevirtual 92, 3) := by decide +kernel
theorem dX9_explore_100 : decode cX9_explore 100 = .ok (.aload_n 0, 1) := by decide +kernel
theorem dX9_explore_101 : decode cX9_explore 101 = .ok (.getfield 15, 3) := by decide +kernel
theorem dX9_explore_104 : decode cX9_explore 104 = .ok (.aload_n 0, 1) := by decide +kernel
theorem dX9_explore_105 : decode cX9_explore 105 = .ok (.invokevirtual 100, 3) := by decide +kernel
theorem dX9_explore_108 : decode cX9_explore 108 = .ok (.saload, 1) := by decide +kernel
theorem dX9_explore_109 : decode cX9_explore 109 = .ok (.iconst 1, 1) := by decide +kernel
theorem dX9_explore_110 : decode cX9_explore 110 = .ok (.isub, 1) := by decide +kernel
theorem dX9_explore_111 : decode cX9_explore 111 = .ok (.istore 5, 2) := by decide +kernel
theorem dX9_explore_113 : decode cX9_explore 113 = .ok (.iload 5, 2) := by decide +kernel
theorem dX9_explore_115 : decode cX9_explore 115 = .ok (.ifCond .lt 14, 3) := by decide +kernel
theorem dX9_explore_118 : decode cX9_explore 118 = .ok (.aload_n 0, 1) := by decide +kernel
theorem dX9_explore_119 : decode cX9_explore 119 = .ok (.iload 4, 2) := by decide +kernel
theorem dX9_explore_121 : decode cX9_explore 121 = .ok (.iload 5, 2) := by decide +kernel
theorem dX9_explore_123 : decode cX9_explore 123 = .ok (.invokevirtual 103, 3) := by decide +kernel
theorem dX9_explore_126 : decode cX9_explore 126 = .ok (.iload 4, 2) := by decide +kernel
theorem dX9_explore_128 : decode cX9_explore 128 = .ok (.ireturn, 1) := by decide +kernel
theorem dX9_explore_129 : decode cX9_explore 129 = .ok (.iload 4, 2) := by decide +kernel
theorem dX9_explore_131 : decode cX9_explore 131 = .ok (.iload_n 1, 1) := by decide +kernel
theorem dX9_explore_132 : decode cX9_explore 132 = .ok (.if_icmp .eq 17, 3) := by decide +kernel
theorem dX9_explore_135 : decode cX9_explore 135 = .ok (.aload_n 0, 1) := by decide +kernel
theorem dX9_explore_136 : decode cX9_explore 136 = .ok (.getfield 23, 3) := by decide +kernel
theorem dX9_explore_139 : decode cX9_explore 139 = .ok (.iload 4, 2) := by decide +kernel
theorem dX9_explore_141 : decode cX9_explore 141 = .ok (.iaload, 1) := by decide +kernel
theorem dX9_explore_142 : decode cX9_explore 142 = .ok (.aload_n 0, 1) := by decide +kernel
theorem dX9_explore_143 : decode cX9_explore 143 = .ok (.getfield 74, 3) := by decide +kernel
theorem dX9_explore_146 : decode cX9_explore 146 = .ok (.if_icmp .ne 5, 3) := by decide +kernel
theorem dX9_explore_149 : decode cX9_explore 149 = .ok (.iconst (-1), 1) := by decide +kernel
theorem dX9_explore_150 : decode cX9_explore 150 = .ok (.ireturn, 1) := by decide +kernel
theorem dX9_explore_151 : decode cX9_explore 151 = .ok (.aload_n 0, 1) := by decide +kernel
theorem dX9_explore_152 : decode cX9_explore 152 = .ok (.iload 4, 2) := by decide +kernel
theorem dX9_explore_154 : decode cX9_explore 154 = .ok (.aload_n 2, 1) := by decide +kernel
theorem dX9_explore_155 : decode cX9_explore 155 = .ok (.getfield 91, 3) := by decide +kernel
theorem dX9_explore_158 : decode cX9_explore 158 = .ok (.invokevirtual 107, 3) := by decide +kernel
theorem dX9_explore_161 : decode cX9_explore 161 = .ok (.ifCond .ne 6, 3) := by decide +kernel
theorem dX9_explore_164 : decode cX9_explore 164 = .ok (.bipush (-2), 2) := by decide +kernel
theorem dX9_explore_166 : decode cX9_explore 166 = .ok (.ireturn, 1) := by decide +kernel
theorem dX9_explore_167 : decode cX9_explore 167 = .ok (.iinc 4 1, 3) := by decide +kernel
theorem dX9_explore_170 : decode cX9_explore 170 = .ok (.goto (-92), 3) := by decide +kernel
theorem dX9_explore_173 : decode cX9_explore 173 = .ok (.iconst (-1), 1) := by decide +kernel
theorem dX9_explore_174 : decode cX9_explore 174 = .ok (.ireturn, 1) := by decide +kernel
abbrev rm_p_X9_explore : Room := { frames := 3, cells := 0, slots := 0, locals := 81 }
set_option maxHeartbeats 4000000 in
set_option maxRecDepth 100000 in
theorem p_X9_explore (l : Launch) (E : cE) (h0 : Nat) (ad : Nat → Nat) (gx : Nat → Int32) (gy : Nat → Int32) (gf : Nat → Int32) (v2 : Int32) (gt : Nat → Int32) (gh : Nat → Int32) (gc : Nat → Int32) (dp : Nat) (hw1 : flo (stC 0) (2 * 4) gx gy gf) (hw3 : ∀ d, d < 2 * 4 → gt d = 0) (hw4 : ∀ d, d < 2 * 4 → gh d = nI (stC 0 d)) (hw5 : ∀ d, d < 2 * 4 → gc d = nI (stC 0 d)) (hdp : dp ≤ 12) : cM l E yX9_explore cX9_explore 6 (some .int) rm_p_X9_explore [.ref (ad 61), .int (nI dp), .ref (ad 76), .ref (ad 80)] [(h0, ob 11 [.ref (ad 0), .ref (ad 7), .ref (ad 28), .ref (ad 30), .ref (ad 76), .ref (ad 46), .ref (ad 55), .ref (ad 57), .ref (ad 59), .ref (ad 61), .ref (ad 80), .int 0, .int 0, .int 0, .int (-1), .int (-1), .int (-1)]), ((ad 61), ob 9 [.ref (ad 7), .ref (ad 30), .ref (ad 46), .ref (ad 62), .ref (ad 63), .ref (ad 64), .ref (ad 65), .ref (ad 66), .ref (ad 67), .ref (ad 68), .ref (ad 69), .int 0, .int 0, .int 0, .int (-1), .ref (ad 70), .int 0, .int 0]), ((ad 63), aS E 4096 (fun _ => 0)), ((ad 65), aI E 15 (fun _ => 0)), ((ad 69), aI E 16 (fun _ => 0)), ((ad 68), aJ E 3 (fun _ => 0)), ((ad 62), aJ E 6000 (fun _ => 0)), ((ad 66), aJ E 2000 (fun _ => 0)), ((ad 67), aI E 2000 (fun _ => 0)), ((ad 7), ob 0 [.ref (ad 8), .ref (ad 10), .ref (ad 12), .ref (ad 14), .ref (ad 15), .ref (ad 16), .ref (ad 17), .ref (ad 18), .ref (ad 19), .ref (ad 20), .ref (ad 21), .ref (ad 22), .ref (ad 23), .ref (ad 24), .ref (ad 25), .ref (ad 26), .int 0, .ref (ad 27), .int 0, .int 0]), ((ad 76), ob 3 [.ref (ad 77), .ref (ad 78), .ref (ad 79), .ref (ad 71), .ref (ad 72), .ref (ad 73), .ref (ad 74), .ref (ad 75), .int (nI (2 * 4)), .int v2]), ((ad 77), aI E 64 gx), ((ad 78), aI E 64 gy), ((ad 79), aI E 64 gf), ((ad 80), aI E 64 gc)] (qI E (fun (r : Int32) (_u : Unit) => r = nI 0) (fun _ => [])) := by
  refine cM_of (by decide) (Nat.le_of_ble_eq_true rfl) ?_
  intro p e s m below meth c ls A F hA hS hP hD hK hZ hl
  obtain ⟨hx, hb, hr, hml, hown, hts, hlk, hin⟩ := id F
  have hown : s.vm.findClass RX9 = some m.cls := hown
  have hl : lv_has ls 6 [(0, .ref (ad 61)), (1, .int (nI dp)), (2, .ref (ad 76)), (3, .ref (ad 80))] := hl
  refine lv_aload_n hx hb dX9_explore_0 rfl (lv_at hl 0 rfl) ?_
  refine cV_go (wr := []) (cM_runV (As := []) (rest := []) F (z31_X9_forget l E h0 ad gx gy gf v2 gt gh gc dp hw1 hw3 hw4 hw5 hdp) yy_X9_forget yi_X9_forget wdM_RX9_65 hP hD hS hK hZ hA [0, 1, 2, 3, 4, 5, 6, 7, 8, 9, 10, 11, 12, 13, 14] rfl rfl 1 9 rfl rfl rfl hl.1 rfl (Nat.le_of_ble_eq_true rfl) dX9_explore_1 ⟨by decide, by decide⟩ ⟨by decide, by decide⟩) hP hD hS hA [0, 1, 2, 3, 4, 5, 6, 7, 8, 9, 10, 11, 12, 13, 14] [] rfl rfl rfl (by decide) (fun u_498 H locs hw_497 hP hD hS => ?_)
  try dsimp only at hw_497
  have hP : va_P E.1 vwCl [(h0, ob 11 [.ref (ad 0), .ref (ad 7), .ref (ad 28), .ref (ad 30), .ref (ad 76), .ref (ad 46), .ref (ad 55), .ref (ad 57), .ref (ad 59), .ref (ad 61), .ref (ad 80), .int 0, .int 0, .int 0, .int (-1), .int (-1), .int (-1)]), ((ad 61), ob 9 [.ref (ad 7), .ref (ad 30), .ref (ad 46), .ref (ad 62), .ref (ad 63), .ref (ad 64), .ref (ad 65), .ref (ad 66), .ref (ad 67), .ref (ad 68), .ref (ad 69), .int 0, .int 0, .int 0, .int (-1), .ref (ad 70), .int (nI 0), .int (nI 0)]), ((ad 63), aS E 4096 (fun _ => 0)), ((ad 65), aI E 15 (fun _ => 0)), ((ad 69), aI E 16 (fun _ => 0)), ((ad 68), aJ E 3 (fun _ => 0)), ((ad 62), aJ E 6000 (fun _ => 0)), ((ad 66), aJ E 2000 (fun _ => 0)), ((ad 67), aI E 2000 (fun _ => 0)), ((ad 7), ob 0 [.ref (ad 8), .ref (ad 10), .ref (ad 12), .ref (ad 14), .ref (ad 15), .ref (ad 16), .ref (ad 17), .ref (ad 18), .ref (ad 19), .ref (ad 20), .ref (ad 21), .ref (ad 22), .ref (ad 23), .ref (ad 24), .ref (ad 25), .ref (ad 26), .int 0, .ref (ad 27), .int 0, .int 0]), ((ad 76), ob 3 [.ref (ad 77), .ref (ad 78), .ref (ad 79), .ref (ad 71), .ref (ad 72), .ref (ad 73), .ref (ad 74), .ref (ad 75), .int (nI (2 * 4)), .int v2]), ((ad 77), aI E 64 gx), ((ad 78), aI E 64 gy), ((ad 79), aI E 64 gf), ((ad 80), aI E 64 gc)] H := hP
  have hD : va_D A [(h0, ob 11 [.ref (ad 0), .ref (ad 7), .ref (ad 28), .ref (ad 30), .ref (ad 76), .ref (ad 46), .ref (ad 55), .ref (ad 57), .ref (ad 59), .ref (ad 61), .ref (ad 80), .int 0, .int 0, .int 0, .int (-1), .int (-1), .int (-1)]), ((ad 61), ob 9 [.ref (ad 7), .ref (ad 30), .ref (ad 46), .ref (ad 62), .ref (ad 63), .ref (ad 64), .ref (ad 65), .ref (ad 66), .ref (ad 67), .ref (ad 68), .ref (ad 69), .int 0, .int 0, .int 0, .int (-1), .ref (ad 70), .int (nI 0), .int (nI 0)]), ((ad 63), aS E 4096 (fun _ => 0)), ((ad 65), aI E 15 (fun _ => 0)), ((ad 69), aI E 16 (fun _ => 0)), ((ad 68), aJ E 3 (fun _ => 0)), ((ad 62), aJ E 6000 (fun _ => 0)), ((ad 66), aJ E 2000 (fun _ => 0)), ((ad 67), aI E 2000 (fun _ => 0)), ((ad 7), ob 0 [.ref (ad 8), .ref (ad 10), .ref (ad 12), .ref (ad 14), .ref (ad 15), .ref (ad 16), .ref (ad 17), .ref (ad 18), .ref (ad 19), .ref (ad 20), .ref (ad 21), .ref (ad 22), .ref (ad 23), .ref (ad 24), .ref (ad 25), .ref (ad 26), .int 0, .ref (ad 27), .int 0, .int 0]), ((ad 76), ob 3 [.ref (ad 77), .ref (ad 78), .ref (ad 79), .ref (ad 71), .ref (ad 72), .ref (ad 73), .ref (ad 74), .ref (ad 75), .int (nI (2 * 4)), .int v2]), ((ad 77), aI E 64 gx), ((ad 78), aI E 64 gy), ((ad 79), aI E 64 gf), ((ad 80), aI E 64 gc)] := hD
  refine lv_aload_n hx hb dX9_explore_4 rfl (lv_at hl 0 rfl) ?_
  refine va_get (D := E.1) (ci := 9) (v := .ref (ad 63)) (C := RX9) (T := TX9) (N := 18) hx hb hts iX9 hown hK hP 1 rfl rfl 4 (by decide) (hts _ wdF_RX9_15) (fun _ h9 => h9) rfl dX9_explore_5 ?_
  refine lv_iconst (v := nI 0) hx hb dX9_explore_8 (by decide) ?_
  refine cV_go (wr := [(h0, ob 11 [.ref (ad 0), .ref (ad 7), .ref (ad 28), .ref (ad 30), .ref (ad 76), .ref (ad 46), .ref (ad 55), .ref (ad 57), .ref (ad 59), .ref (ad 61), .ref (ad 80), .int 0, .int 0, .int 0, .int (-1), .int (-1), .int (-1)]), ((ad 61), ob 9 [.ref (ad 7), .ref (ad 30), .ref (ad 46), .ref (ad 62), .ref (ad 63), .ref (ad 64), .ref (ad 65), .ref (ad 66), .ref (ad 67), .ref (ad 68), .ref (ad 69), .int 0, .int 0, .int 0, .int (-1), .ref (ad 70), .int (nI 0), .int (nI 0)]), ((ad 65), aI E 15 (fun _ => 0)), ((ad 69), aI E 16 (fun _ => 0)), ((ad 68), aJ E 3 (fun _ => 0)), ((ad 62), aJ E 6000 (fun _ => 0)), ((ad 66), aJ E 2000 (fun _ => 0)), ((ad 67), aI E 2000 (fun _ => 0)), ((ad 7), ob 0 [.ref (ad 8), .ref (ad 10), .ref (ad 12), .ref (ad 14), .ref (ad 15), .ref (ad 16), .ref (ad 17), .ref (ad 18), .ref (ad 19), .ref (ad 20), .ref (ad 21), .ref (ad 22), .ref (ad 23), .ref (ad 24), .ref (ad 25), .ref (ad 26), .int 0, .ref (ad 27), .int 0, .int 0]), ((ad 76), ob 3 [.ref (ad 77), .ref (ad 78), .ref (ad 79), .ref (ad 71), .ref (ad 72), .ref (ad 73), .ref (ad 74), .ref (ad 75), .int (nI (2 * 4)), .int v2]), ((ad 77), aI E 64 gx), ((ad 78), aI E 64 gy), ((ad 79), aI E 64 gf), ((ad 80), aI E 64 gc)]) (cM_runS (As := [.ref (ad 63), .int (nI 0)]) (rest := []) F (c_J7_fill_fb410 l E (ad 63) 4096 (fun _ => 0) (nI 0) (by decide)) yy_J7_fill_fb410 wdT_J7_fill_fb410 wdM_RX9_68 hP hD hS hK hZ hA [2] rfl rfl rfl hl.1 rfl (Nat.le_of_ble_eq_true rfl) dX9_explore_9 ⟨by decide, by decide⟩ ⟨by decide, by decide⟩) hP hD hS hA [2] [0, 1, 3, 4, 5, 6, 7, 8, 9, 10, 11, 12, 13, 14] rfl rfl rfl (by decide) (fun u_501 H locs hw_500 hP hD hS => ?_)
  obtain ⟨gs, rfl⟩ : ∃ z, z = u_501 := ⟨_, rfl⟩
  try dsimp only at hw_500
  have hP : va_P E.1 vwCl [(h0, ob 11 [.ref (ad 0), .ref (ad 7), .ref (ad 28), .ref (ad 30), .ref (ad 76), .ref (ad 46), .ref (ad 55), .ref (ad 57), .ref (ad 59), .ref (ad 61), .ref (ad 80), .int 0, .int 0, .int 0, .int (-1), .int (-1), .int (-1)]), ((ad 61), ob 9 [.ref (ad 7), .ref (ad 30), .ref (ad 46), .ref (ad 62), .ref (ad 63), .ref (ad 64), .ref (ad 65), .ref (ad 66), .ref (ad 67), .ref (ad 68), .ref (ad 69), .int 0, .int 0, .int 0, .int (-1), .ref (ad 70), .int (nI 0), .int (nI 0)]), ((ad 65), aI E 15 (fun _ => 0)), ((ad 69), aI E 16 (fun _ => 0)), ((ad 68), aJ E 3 (fun _ => 0)), ((ad 62), aJ E 6000 (fun _ => 0)), ((ad 66), aJ E 2000 (fun _ => 0)), ((ad 67), aI E 2000 (fun _ => 0)), ((ad 7), ob 0 [.ref (ad 8), .ref (ad 10), .ref (ad 12), .ref (ad 14), .ref (ad 15), .ref (ad 16), .ref (ad 17), .ref (ad 18), .ref (ad 19), .ref (ad 20), .ref (ad 21), .ref (ad 22), .ref (ad 23), .ref (ad 24), .ref (ad 25), .ref (ad 26), .int 0, .ref (ad 27), .int 0, .int 0]), ((ad 76), ob 3 [.ref (ad 77), .ref (ad 78), .ref (ad 79), .ref (ad 71), .ref (ad 72), .ref (ad 73), .ref (ad 74), .ref (ad 75), .int (nI (2 * 4)), .int v2]), ((ad 77), aI E 64 gx), ((ad 78), aI E 64 gy), ((ad 79), aI E 64 gf), ((ad 80), aI E 64 gc), ((ad 63), aS E 4096 gs)] H := hP
  have hD : va_D A [(h0, ob 11 [.ref (ad 0), .ref (ad 7), .ref (ad 28), .ref (ad 30), .ref (ad 76), .ref (ad 46), .ref (ad 55), .ref (ad 57), .ref (ad 59), .ref (ad 61), .ref (ad 80), .int 0, .int 0, .int 0, .int (-1), .int (-1), .int (-1)]), ((ad 61), ob 9 [.ref (ad 7), .ref (ad 30), .ref (ad 46), .ref (ad 62), .ref (ad 63), .ref (ad 64), .ref (ad 65), .ref (ad 66), .ref (ad 67), .ref (ad 68), .ref (ad 69), .int 0, .int 0, .int 0, .int (-1), .ref (ad 70), .int (nI 0), .int (nI 0)]), ((ad 65), aI E 15 (fun _ => 0)), ((ad 69), aI E 16 (fun _ => 0)), ((ad 68), aJ E 3 (fun _ => 0)), ((ad 62), aJ E 6000 (fun _ => 0)), ((ad 66), aJ E 2000 (fun _ => 0)), ((ad 67), aI E 2000 (fun _ => 0)), ((ad 7), ob 0 [.ref (ad 8), .ref (ad 10), .ref (ad 12), .ref (ad 14), .ref (ad 15), .ref (ad 16), .ref (ad 17), .ref (ad 18), .ref (ad 19), .ref (ad 20), .ref (ad 21), .ref (ad 22), .ref (ad 23), .ref (ad 24), .ref (ad 25), .ref (ad 26), .int 0, .ref (ad 27), .int 0, .int 0]), ((ad 76), ob 3 [.ref (ad 77), .ref (ad 78), .ref (ad 79), .ref (ad 71), .ref (ad 72), .ref (ad 73), .ref (ad 74), .ref (ad 75), .int (nI (2 * 4)), .int v2]), ((ad 77), aI E 64 gx), ((ad 78), aI E 64 gy), ((ad 79), aI E 64 gf), ((ad 80), aI E 64 gc), ((ad 63), aS E 4096 gs)] := hD
  obtain ⟨hP, hD⟩ := cw_extI (g := (fun _ => 0)) hP hD 14 rfl (fun j hj => (hw_500 j hj).trans (by decide))
  have hP : va_P E.1 vwCl [(h0, ob 11 [.ref (ad 0), .ref (ad 7), .ref (ad 28), .ref (ad 30), .ref (ad 76), .ref (ad 46), .ref (ad 55), .ref (ad 57), .ref (ad 59), .ref (ad 61), .ref (ad 80), .int 0, .int 0, .int 0, .int (-1), .int (-1), .int (-1)]), ((ad 61), ob 9 [.ref (ad 7), .ref (ad 30), .ref (ad 46), .ref (ad 62), .ref (ad 63), .ref (ad 64), .ref (ad 65), .ref (ad 66), .ref (ad 67), .ref (ad 68), .ref (ad 69), .int 0, .int 0, .int 0, .int (-1), .ref (ad 70), .int (nI 0), .int (nI 0)]), ((ad 65), aI E 15 (fun _ => 0)), ((ad 69), aI E 16 (fun _ => 0)), ((ad 68), aJ E 3 (fun _ => 0)), ((ad 62), aJ E 6000 (fun _ => 0)), ((ad 66), aJ E 2000 (fun _ => 0)), ((ad 67), aI E 2000 (fun _ => 0)), ((ad 7), ob 0 [.ref (ad 8), .ref (ad 10), .ref (ad 12), .ref (ad 14), .ref (ad 15), .ref (ad 16), .ref (ad 17), .ref (ad 18), .ref (ad 19), .ref (ad 20), .ref (ad 21), .ref (ad 22), .ref (ad 23), .ref (ad 24), .ref (ad 25), .ref (ad 26), .int 0, .ref (ad 27), .int 0, .int 0]), ((ad 76), ob 3 [.ref (ad 77), .ref (ad 78), .ref (ad 79), .ref (ad 71), .ref (ad 72), .ref (ad 73), .ref (ad 74), .ref (ad 75), .int (nI (2 * 4)), .int v2]), ((ad 77), aI E 64 gx), ((ad 78), aI E 64 gy), ((ad 79), aI E 64 gf), ((ad 80), aI E 64 gc), ((ad 63), aS E 4096 (fun _ => 0))] H := hP
  have hD : va_D A [(h0, ob 11 [.ref (ad 0), .ref (ad 7), .ref (ad 28), .ref (ad 30), .ref (ad 76), .ref (ad 46), .ref (ad 55), .ref (ad 57), .ref (ad 59), .ref (ad 61), .ref (ad 80), .int 0, .int 0, .int 0, .int (-1), .int (-1), .int (-1)]), ((ad 61), ob 9 [.ref (ad 7), .ref (ad 30), .ref (ad 46), .ref (ad 62), .ref (ad 63), .ref (ad 64), .ref (ad 65), .ref (ad 66), .ref (ad 67), .ref (ad 68), .ref (ad 69), .int 0, .int 0, .int 0, .int (-1), .ref (ad 70), .int (nI 0), .int (nI 0)]), ((ad 65), aI E 15 (fun _ => 0)), ((ad 69), aI E 16 (fun _ => 0)), ((ad 68), aJ E 3 (fun _ => 0)), ((ad 62), aJ E 6000 (fun _ => 0)), ((ad 66), aJ E 2000 (fun _ => 0)), ((ad 67), aI E 2000 (fun _ => 0)), ((ad 7), ob 0 [.ref (ad 8), .ref (ad 10), .ref (ad 12), .ref (ad 14), .ref (ad 15), .ref (ad 16), .ref (ad 17), .ref (ad 18), .ref (ad 19), .ref (ad 20), .ref (ad 21), .ref (ad 22), .ref (ad 23), .ref (ad 24), .ref (ad 25), .ref (ad 26), .int 0, .ref (ad 27), .int 0, .int 0]), ((ad 76), ob 3 [.ref (ad 77), .ref (ad 78), .ref (ad 79), .ref (ad 71), .ref (ad 72), .ref (ad 73), .ref (ad 74), .ref (ad 75), .int (nI (2 * 4)), .int v2]), ((ad 77), aI E 64 gx), ((ad 78), aI E 64 gy), ((ad 79), aI E 64 gf), ((ad 80), aI E 64 gc), ((ad 63), aS E 4096 (fun _ => 0))] := hD
  refine lv_aload_n hx hb dX9_explore_12 rfl (lv_at hl 0 rfl) ?_
  refine lv_iconst (v := nI 0) hx hb dX9_explore_13 (by decide) ?_
  refine va_put (D := E.1) (ci := 9) (v := .int (nI 0)) (ty := .int) (C := RX9) (T := TX9) (N := 18) hx hb hts iX9 tyX9 tyX9_ok nmX9 hown hK hP hD hS 1 rfl rfl 11 (by decide) (hts _ wdF_RX9_74) (fun _ h9 => h9) rfl (by decide +kernel) rfl rfl (Nat.le_of_ble_eq_true rfl) dX9_explore_14 (fun H locs hP hD hS => ?_)
  have hP : va_P E.1 vwCl [(h0, ob 11 [.ref (ad 0), .ref (ad 7), .ref (ad 28), .ref (ad 30), .ref (ad 76), .ref (ad 46), .ref (ad 55), .ref (ad 57), .ref (ad 59), .ref (ad 61), .ref (ad 80), .int 0, .int 0, .int 0, .int (-1), .int (-1), .int (-1)]), ((ad 61), ob 9 [.ref (ad 7), .ref (ad 30), .ref (ad 46), .ref (ad 62), .ref (ad 63), .ref (ad 64), .ref (ad 65), .ref (ad 66), .ref (ad 67), .ref (ad 68), .ref (ad 69), .int (nI 0), .int 0, .int 0, .int (-1), .ref (ad 70), .int (nI 0), .int (nI 0)]), ((ad 65), aI E 15 (fun _ => 0)), ((ad 69), aI E 16 (fun _ => 0)), ((ad 68), aJ E 3 (fun _ => 0)), ((ad 62), aJ E 6000 (fun _ => 0)), ((ad 66), aJ E 2000 (fun _ => 0)), ((ad 67), aI E 2000 (fun _ => 0)), ((ad 7), ob 0 [.ref (ad 8), .ref (ad 10), .ref (ad 12), .ref (ad 14), .ref (ad 15), .ref (ad 16), .ref (ad 17), .ref (ad 18), .ref (ad 19), .ref (ad 20), .ref (ad 21), .ref (ad 22), .ref (ad 23), .ref (ad 24), .ref (ad 25), .ref (ad 26), .int 0, .ref (ad 27), .int 0, .int 0]), ((ad 76), ob 3 [.ref (ad 77), .ref (ad 78), .ref (ad 79), .ref (ad 71), .ref (ad 72), .ref (ad 73), .ref (ad 74), .ref (ad 75), .int (nI (2 * 4)), .int v2]), ((ad 77), aI E 64 gx), ((ad 78), aI E 64 gy), ((ad 79), aI E 64 gf), ((ad 80), aI E 64 gc), ((ad 63), aS E 4096 (fun _ => 0))] H := hP
  have hD : va_D A [(h0, ob 11 [.ref (ad 0), .ref (ad 7), .ref (ad 28), .ref (ad 30), .ref (ad 76), .ref (ad 46), .ref (ad 55), .ref (ad 57), .ref (ad 59), .ref (ad 61), .ref (ad 80), .int 0, .int 0, .int 0, .int (-1), .int (-1), .int (-1)]), ((ad 61), ob 9 [.ref (ad 7), .ref (ad 30), .ref (ad 46), .ref (ad 62), .ref (ad 63), .ref (ad 64), .ref (ad 65), .ref (ad 66), .ref (ad 67), .ref (ad 68), .ref (ad 69), .int (nI 0), .int 0, .int 0, .int (-1), .ref (ad 70), .int (nI 0), .int (nI 0)]), ((ad 65), aI E 15 (fun _ => 0)), ((ad 69), aI E 16 (fun _ => 0)), ((ad 68), aJ E 3 (fun _ => 0)), ((ad 62), aJ E 6000 (fun _ => 0)), ((ad 66), aJ E 2000 (fun _ => 0)), ((ad 67), aI E 2000 (fun _ => 0)), ((ad 7), ob 0 [.ref (ad 8), .ref (ad 10), .ref (ad 12), .ref (ad 14), .ref (ad 15), .ref (ad 16), .ref (ad 17), .ref (ad 18), .ref (ad 19), .ref (ad 20), .ref (ad 21), .ref (ad 22), .ref (ad 23), .ref (ad 24), .ref (ad 25), .ref (ad 26), .int 0, .ref (ad 27), .int 0, .int 0]), ((ad 76), ob 3 [.ref (ad 77), .ref (ad 78), .ref (ad 79), .ref (ad 71), .ref (ad 72), .ref (ad 73), .ref (ad 74), .ref (ad 75), .int (nI (2 * 4)), .int v2]), ((ad 77), aI E 64 gx), ((ad 78), aI E 64 gy), ((ad 79), aI E 64 gf), ((ad 80), aI E 64 gc), ((ad 63), aS E 4096 (fun _ => 0))] := hD
  refine lv_aload_n hx hb dX9_explore_17 rfl (lv_at hl 0 rfl) ?_
  refine lv_aload_n hx hb dX9_explore_18 rfl (lv_at hl 0 rfl) ?_
  refine va_get (D := E.1) (ci := 9) (v := .ref (ad 7)) (C := RX9) (T := TX9) (N := 18) hx hb hts iX9 hown hK hP 1 rfl rfl 0 (by decide) (hts _ wdF_RX9_46) (fun _ h9 => h9) rfl dX9_explore_19 ?_
  refine va_get (D := E.1) (ci := 0) (v := .int 0) (C := RX0) (T := TX0) (N := 20) hx hb hts iX0 hown hK hP 8 rfl rfl 16 (by decide) (hts _ wdF_RX9_77) (fun _ h9 => h9) rfl dX9_explore_22 ?_
  refine va_put (D := E.1) (ci := 9) (v := .int 0) (ty := .int) (C := RX9) (T := TX9) (N := 18) hx hb hts iX9 tyX9 tyX9_ok nmX9 hown hK hP hD hS 1 rfl rfl 12 (by decide) (hts _ wdF_RX9_82) (fun _ h9 => h9) rfl (by decide +kernel) rfl rfl (Nat.le_of_ble_eq_true rfl) dX9_explore_25 (fun H locs hP hD hS => ?_)
  have hP : va_P E.1 vwCl [(h0, ob 11 [.ref (ad 0), .ref (ad 7), .ref (ad 28), .ref (ad 30), .ref (ad 76), .ref (ad 46), .ref (ad 55), .ref (ad 57), .ref (ad 59), .ref (ad 61), .ref (ad 80), .int 0, .int 0, .int 0, .int (-1), .int (-1), .int (-1)]), ((ad 61), ob 9 [.ref (ad 7), .ref (ad 30), .ref (ad 46), .ref (ad 62), .ref (ad 63), .ref (ad 64), .ref (ad 65), .ref (ad 66), .ref (ad 67), .ref (ad 68), .ref (ad 69), .int (nI 0), .int 0, .int 0, .int (-1), .ref (ad 70), .int (nI 0), .int (nI 0)]), ((ad 65), aI E 15 (fun _ => 0)), ((ad 69), aI E 16 (fun _ => 0)), ((ad 68), aJ E 3 (fun _ => 0)), ((ad 62), aJ E 6000 (fun _ => 0)), ((ad 66), aJ E 2000 (fun _ => 0)), ((ad 67), aI E 2000 (fun _ => 0)), ((ad 7), ob 0 [.ref (ad 8), .ref (ad 10), .ref (ad 12), .ref (ad 14), .ref (ad 15), .ref (ad 16), .ref (ad 17), .ref (ad 18), .ref (ad 19), .ref (ad 20), .ref (ad 21), .ref (ad 22), .ref (ad 23), .ref (ad 24), .ref (ad 25), .ref (ad 26), .int 0, .ref (ad 27), .int 0, .int 0]), ((ad 76), ob 3 [.ref (ad 77), .ref (ad 78), .ref (ad 79), .ref (ad 71), .ref (ad 72), .ref (ad 73), .ref (ad 74), .ref (ad 75), .int (nI (2 * 4)), .int v2]), ((ad 77), aI E 64 gx), ((ad 78), aI E 64 gy), ((ad 79), aI E 64 gf), ((ad 80), aI E 64 gc), ((ad 63), aS E 4096 (fun _ => 0))] H := hP
  have hD : va_D A [(h0, ob 11 [.ref (ad 0), .ref (ad 7), .ref (ad 28), .ref (ad 30), .ref (ad 76), .ref (ad 46), .ref (ad 55), .ref (ad 57), .ref (ad 59), .ref (ad 61), .ref (ad 80), .int 0, .int 0, .int 0, .int (-1), .int (-1), .int (-1)]), ((ad 61), ob 9 [.ref (ad 7), .ref (ad 30), .ref (ad 46), .ref (ad 62), .ref (ad 63), .ref (ad 64), .ref (ad 65), .ref (ad 66), .ref (ad 67), .ref (ad 68), .ref (ad 69), .int (nI 0), .int 0, .int 0, .int (-1), .ref (ad 70), .int (nI 0), .int (nI 0)]), ((ad 65), aI E 15 (fun _ => 0)), ((ad 69), aI E 16 (fun _ => 0)), ((ad 68), aJ E 3 (fun _ => 0)), ((ad 62), aJ E 6000 (fun _ => 0)), ((ad 66), aJ E 2000 (fun _ => 0)), ((ad 67), aI E 2000 (fun _ => 0)), ((ad 7), ob 0 [.ref (ad 8), .ref (ad 10), .ref (ad 12), .ref (ad 14), .ref (ad 15), .ref (ad 16), .ref (ad 17), .ref (ad 18), .ref (ad 19), .ref (ad 20), .ref (ad 21), .ref (ad 22), .ref (ad 23), .ref (ad 24), .ref (ad 25), .ref (ad 26), .int 0, .ref (ad 27), .int 0, .int 0]), ((ad 76), ob 3 [.ref (ad 77), .ref (ad 78), .ref (ad 79), .ref (ad 71), .ref (ad 72), .ref (ad 73), .ref (ad 74), .ref (ad 75), .int (nI (2 * 4)), .int v2]), ((ad 77), aI E 64 gx), ((ad 78), aI E 64 gy), ((ad 79), aI E 64 gf), ((ad 80), aI E 64 gc), ((ad 63), aS E 4096 (fun _ => 0))] := hD
  refine lv_aload_n hx hb dX9_explore_28 rfl (lv_at hl 0 rfl) ?_
  refine va_get (D := E.1) (ci := 9) (v := .ref (ad 65)) (C := RX9) (T := TX9) (N := 18) hx hb hts iX9 hown hK hP 1 rfl rfl 6 (by decide) (hts _ wdF_RX9_23) (fun _ h9 => h9) rfl dX9_explore_29 ?_
  refine lv_iconst (v := nI 0) hx hb dX9_explore_32 (by decide) ?_
  refine lv_iconst (v := nI 0) hx hb dX9_explore_33 (by decide) ?_
  refine va_iast hx hb hK hP hD hS 2 1 rfl rfl (vp_in_nI (by decide) (by decide)) dX9_explore_34 (fun H locs hP hD hS => ?_)
  have hP : va_P E.1 vwCl [(h0, ob 11 [.ref (ad 0), .ref (ad 7), .ref (ad 28), .ref (ad 30), .ref (ad 76), .ref (ad 46), .ref (ad 55), .ref (ad 57), .ref (ad 59), .ref (ad 61), .ref (ad 80), .int 0, .int 0, .int 0, .int (-1), .int (-1), .int (-1)]), ((ad 61), ob 9 [.ref (ad 7), .ref (ad 30), .ref (ad 46), .ref (ad 62), .ref (ad 63), .ref (ad 64), .ref (ad 65), .ref (ad 66), .ref (ad 67), .ref (ad 68), .ref (ad 69), .int (nI 0), .int 0, .int 0, .int (-1), .ref (ad 70), .int (nI 0), .int (nI 0)]), ((ad 65), aI E 15 (upd (fun _ => 0) (nI 0).toNatClampNeg (nI 0))), ((ad 69), aI E 16 (fun _ => 0)), ((ad 68), aJ E 3 (fun _ => 0)), ((ad 62), aJ E 6000 (fun _ => 0)), ((ad 66), aJ E 2000 (fun _ => 0)), ((ad 67), aI E 2000 (fun _ => 0)), ((ad 7), ob 0 [.ref (ad 8), .ref (ad 10), .ref (ad 12), .ref (ad 14), .ref (ad 15), .ref (ad 16), .ref (ad 17), .ref (ad 18), .ref (ad 19), .ref (ad 20), .ref (ad 21), .ref (ad 22), .ref (ad 23), .ref (ad 24), .ref (ad 25), .ref (ad 26), .int 0, .ref (ad 27), .int 0, .int 0]), ((ad 76), ob 3 [.ref (ad 77), .ref (ad 78), .ref (ad 79), .ref (ad 71), .ref (ad 72), .ref (ad 73), .ref (ad 74), .ref (ad 75), .int (nI (2 * 4)), .int v2]), ((ad 77), aI E 64 gx), ((ad 78), aI E 64 gy), ((ad 79), aI E 64 gf), ((ad 80), aI E 64 gc), ((ad 63), aS E 4096 (fun _ => 0))] H := hP
  have hD : va_D A [(h0, ob 11 [.ref (ad 0), .ref (ad 7), .ref (ad 28), .ref (ad 30), .ref (ad 76), .ref (ad 46), .ref (ad 55), .ref (ad 57), .ref (ad 59), .ref (ad 61), .ref (ad 80), .int 0, .int 0, .int 0, .int (-1), .int (-1), .int (-1)]), ((ad 61), ob 9 [.ref (ad 7), .ref (ad 30), .ref (ad 46), .ref (ad 62), .ref (ad 63), .ref (ad 64), .ref (ad 65), .ref (ad 66), .ref (ad 67), .ref (ad 68), .ref (ad 69), .int (nI 0), .int 0, .int 0, .int (-1), .ref (ad 70), .int (nI 0), .int (nI 0)]), ((ad 65), aI E 15 (upd (fun _ => 0) (nI 0).toNatClampNeg (nI 0))), ((ad 69), aI E 16 (fun _ => 0)), ((ad 68), aJ E 3 (fun _ => 0)), ((ad 62), aJ E 6000 (fun _ => 0)), ((ad 66), aJ E 2000 (fun _ => 0)), ((ad 67), aI E 2000 (fun _ => 0)), ((ad 7), ob 0 [.ref (ad 8), .ref (ad 10), .ref (ad 12), .ref (ad 14), .ref (ad 15), .ref (ad 16), .ref (ad 17), .ref (ad 18), .ref (ad 19), .ref (ad 20), .ref (ad 21), .ref (ad 22), .ref (ad 23), .ref (ad 24), .ref (ad 25), .ref (ad 26), .int 0, .ref (ad 27), .int 0, .int 0]), ((ad 76), ob 3 [.ref (ad 77), .ref (ad 78), .ref (ad 79), .ref (ad 71), .ref (ad 72), .ref (ad 73), .ref (ad 74), .ref (ad 75), .int (nI (2 * 4)), .int v2]), ((ad 77), aI E 64 gx), ((ad 78), aI E 64 gy), ((ad 79), aI E 64 gf), ((ad 80), aI E 64 gc), ((ad 63), aS E 4096 (fun _ => 0))] := hD
  rw [nI_clamp (n := 0) (by decide)] at hP hD
  refine lv_aload_n hx hb dX9_explore_35 rfl (lv_at hl 2 rfl) ?_
  refine lv_aload_n hx hb dX9_explore_36 rfl (lv_at hl 0 rfl) ?_
  refine va_get (D := E.1) (ci := 9) (v := .ref (ad 69)) (C := RX9) (T := TX9) (N := 18) hx hb hts iX9 hown hK hP 1 rfl rfl 10 (by decide) (hts _ wdF_RX9_36) (fun _ h9 => h9) rfl dX9_explore_37 ?_
  refine cV_go (wr := [(h0, ob 11 [.ref (ad 0), .ref (ad 7), .ref (ad 28), .ref (ad 30), .ref (ad 76), .ref (ad 46), .ref (ad 55), .ref (ad 57), .ref (ad 59), .ref (ad 61), .ref (ad 80), .int 0, .int 0, .int 0, .int (-1), .int (-1), .int (-1)]), ((ad 61), ob 9 [.ref (ad 7), .ref (ad 30), .ref (ad 46), .ref (ad 62), .ref (ad 63), .ref (ad 64), .ref (ad 65), .ref (ad 66), .ref (ad 67), .ref (ad 68), .ref (ad 69), .int (nI 0), .int 0, .int 0, .int (-1), .ref (ad 70), .int (nI 0), .int (nI 0)]), ((ad 65), aI E 15 (upd (fun _ => 0) 0 (nI 0))), ((ad 68), aJ E 3 (fun _ => 0)), ((ad 62), aJ E 6000 (fun _ => 0)), ((ad 66), aJ E 2000 (fun _ => 0)), ((ad 67), aI E 2000 (fun _ => 0)), ((ad 7), ob 0 [.ref (ad 8), .ref (ad 10), .ref (ad 12), .ref (ad 14), .ref (ad 15), .ref (ad 16), .ref (ad 17), .ref (ad 18), .ref (ad 19), .ref (ad 20), .ref (ad 21), .ref (ad 22), .ref (ad 23), .ref (ad 24), .ref (ad 25), .ref (ad 26), .int 0, .ref (ad 27), .int 0, .int 0]), ((ad 80), aI E 64 gc), ((ad 63), aS E 4096 (fun _ => 0))]) (cM_runV (As := [.ref (ad 69)]) (rest := []) F (c_X3_copyCodes l E (ad 76) (ad 77) (ad 78) (ad 79) (ad 71) (ad 72) (ad 73) (ad 74) (ad 75) (2 * 4) v2 (stC 0) gx gy gf (ad 69) 16 (fun _ => 0) hw1 (by decide) (by decide) (by decide)) yy_X3_copyCodes yi_X3_copyCodes wdM_RX9_85 hP hD hS hK hZ hA [9, 10, 11, 12, 3] rfl rfl 9 3 rfl rfl rfl hl.1 rfl (Nat.le_of_ble_eq_true rfl) dX9_explore_40 ⟨by decide, by decide⟩ ⟨by decide, by decide⟩) hP hD hS hA [9, 10, 11, 12, 3] [0, 1, 2, 4, 5, 6, 7, 8, 13, 14] rfl rfl rfl (by decide) (fun u_503 H locs hgk hP hD hS => ?_)
  obtain ⟨gk, rfl⟩ : ∃ z, z = u_503 := ⟨_, rfl⟩
  try dsimp only at hgk
  have hP : va_P E.1 vwCl [(h0, ob 11 [.ref (ad 0), .ref (ad 7), .ref (ad 28), .ref (ad 30), .ref (ad 76), .ref (ad 46), .ref (ad 55), .ref (ad 57), .ref (ad 59), .ref (ad 61), .ref (ad 80), .int 0, .int 0, .int 0, .int (-1), .int (-1), .int (-1)]), ((ad 61), ob 9 [.ref (ad 7), .ref (ad 30), .ref (ad 46), .ref (ad 62), .ref (ad 63), .ref (ad 64), .ref (ad 65), .ref (ad 66), .ref (ad 67), .ref (ad 68), .ref (ad 69), .int (nI 0), .int 0, .int 0, .int (-1), .ref (ad 70), .int (nI 0), .int (nI 0)]), ((ad 65), aI E 15 (upd (fun _ => 0) 0 (nI 0))), ((ad 68), aJ E 3 (fun _ => 0)), ((ad 62), aJ E 6000 (fun _ => 0)), ((ad 66), aJ E 2000 (fun _ => 0)), ((ad 67), aI E 2000 (fun _ => 0)), ((ad 7), ob 0 [.ref (ad 8), .ref (ad 10), .ref (ad 12), .ref (ad 14), .ref (ad 15), .ref (ad 16), .ref (ad 17), .ref (ad 18), .ref (ad 19), .ref (ad 20), .ref (ad 21), .ref (ad 22), .ref (ad 23), .ref (ad 24), .ref (ad 25), .ref (ad 26), .int 0, .ref (ad 27), .int 0, .int 0]), ((ad 80), aI E 64 gc), ((ad 63), aS E 4096 (fun _ => 0)), ((ad 76), ob 3 [.ref (ad 77), .ref (ad 78), .ref (ad 79), .ref (ad 71), .ref (ad 72), .ref (ad 73), .ref (ad 74), .ref (ad 75), .int (nI (2 * 4)), .int v2]), ((ad 77), aI E 64 gx), ((ad 78), aI E 64 gy), ((ad 79), aI E 64 gf), ((ad 69), aI E 16 gk)] H := hP
  have hD : va_D A [(h0, ob 11 [.ref (ad 0), .ref (ad 7), .ref (ad 28), .ref (ad 30), .ref (ad 76), .ref (ad 46), .ref (ad 55), .ref (ad 57), .ref (ad 59), .ref (ad 61), .ref (ad 80), .int 0, .int 0, .int 0, .int (-1), .int (-1), .int (-1)]), ((ad 61), ob 9 [.ref (ad 7), .ref (ad 30), .ref (ad 46), .ref (ad 62), .ref (ad 63), .ref (ad 64), .ref (ad 65), .ref (ad 66), .ref (ad 67), .ref (ad 68), .ref (ad 69), .int (nI 0), .int 0, .int 0, .int (-1), .ref (ad 70), .int (nI 0), .int (nI 0)]), ((ad 65), aI E 15 (upd (fun _ => 0) 0 (nI 0))), ((ad 68), aJ E 3 (fun _ => 0)), ((ad 62), aJ E 6000 (fun _ => 0)), ((ad 66), aJ E 2000 (fun _ => 0)), ((ad 67), aI E 2000 (fun _ => 0)), ((ad 7), ob 0 [.ref (ad 8), .ref (ad 10), .ref (ad 12), .ref (ad 14), .ref (ad 15), .ref (ad 16), .ref (ad 17), .ref (ad 18), .ref (ad 19), .ref (ad 20), .ref (ad 21), .ref (ad 22), .ref (ad 23), .ref (ad 24), .ref (ad 25), .ref (ad 26), .int 0, .ref (ad 27), .int 0, .int 0]), ((ad 80), aI E 64 gc), ((ad 63), aS E 4096 (fun _ => 0)), ((ad 76), ob 3 [.ref (ad 77), .ref (ad 78), .ref (ad 79), .ref (ad 71), .ref (ad 72), .ref (ad 73), .ref (ad 74), .ref (ad 75), .int (nI (2 * 4)), .int v2]), ((ad 77), aI E 64 gx), ((ad 78), aI E 64 gy), ((ad 79), aI E 64 gf), ((ad 69), aI E 16 gk)] := hD
  refine lv_aload_n hx hb dX9_explore_43 rfl (lv_at hl 0 rfl) ?_
  refine lv_aload_n hx hb dX9_explore_44 rfl (lv_at hl 0 rfl) ?_
  refine va_get (D := E.1) (ci := 9) (v := .ref (ad 69)) (C := RX9) (T := TX9) (N := 18) hx hb hts iX9 hown hK hP 1 rfl rfl 10 (by decide) (hts _ wdF_RX9_36) (fun _ h9 => h9) rfl dX9_explore_45 ?_
  refine lv_aload_n hx hb dX9_explore_48 rfl (lv_at hl 2 rfl) ?_
  refine va_get (D := E.1) (ci := 3) (v := .int (nI (2 * 4))) (C := RX3) (T := TX3) (N := 10) hx hb hts iX3 hown hK hP 10 rfl rfl 8 (by decide) (hts _ wdF_RX9_91) (fun _ h9 => h9) rfl dX9_explore_49 ?_
  refine cV_go (wr := [(h0, ob 11 [.ref (ad 0), .ref (ad 7), .ref (ad 28), .ref (ad 30), .ref (ad 76), .ref (ad 46), .ref (ad 55), .ref (ad 57), .ref (ad 59), .ref (ad 61), .ref (ad 80), .int 0, .int 0, .int 0, .int (-1), .int (-1), .int (-1)]), ((ad 65), aI E 15 (upd (fun _ => 0) 0 (nI 0))), ((ad 62), aJ E 6000 (fun _ => 0)), ((ad 66), aJ E 2000 (fun _ => 0)), ((ad 67), aI E 2000 (fun _ => 0)), ((ad 7), ob 0 [.ref (ad 8), .ref (ad 10), .ref (ad 12), .ref (ad 14), .ref (ad 15), .ref (ad 16), .ref (ad 17), .ref (ad 18), .ref (ad 19), .ref (ad 20), .ref (ad 21), .ref (ad 22), .ref (ad 23), .ref (ad 24), .ref (ad 25), .ref (ad 26), .int 0, .ref (ad 27), .int 0, .int 0]), ((ad 80), aI E 64 gc), ((ad 63), aS E 4096 (fun _ => 0)), ((ad 76), ob 3 [.ref (ad 77), .ref (ad 78), .ref (ad 79), .ref (ad 71), .ref (ad 72), .ref (ad 73), .ref (ad 74), .ref (ad 75), .int (nI (2 * 4)), .int v2]), ((ad 77), aI E 64 gx), ((ad 78), aI E 64 gy), ((ad 79), aI E 64 gf)]) (cM_runV (As := [.ref (ad 69), .int (nI (2 * 4))]) (rest := []) F (c_X9_pack l E h0 ad gx gy gf v2 gt gh gc (nI 0) 0 0 (-1) (nI 0) (nI 0) (ad 69) 16 gk (fun _ => 0) (2 * 4) (by decide) (by decide) (by decide)) yy_X9_pack yi_X9_pack wdM_RX9_92 hP hD hS hK hZ hA [1, 3, 14] rfl rfl 1 9 rfl rfl rfl hl.1 rfl (Nat.le_of_ble_eq_true rfl) dX9_explore_52 ⟨by decide, by decide⟩ ⟨by decide, by decide⟩) hP hD hS hA [1, 3, 14] [0, 2, 4, 5, 6, 7, 8, 9, 10, 11, 12, 13] rfl rfl rfl (by decide) (fun u_506 H locs hw_505 hP hD hS => ?_)
  try dsimp only at hw_505
  have hP : va_P E.1 vwCl [(h0, ob 11 [.ref (ad 0), .ref (ad 7), .ref (ad 28), .ref (ad 30), .ref (ad 76), .ref (ad 46), .ref (ad 55), .ref (ad 57), .ref (ad 59), .ref (ad 61), .ref (ad 80), .int 0, .int 0, .int 0, .int (-1), .int (-1), .int (-1)]), ((ad 65), aI E 15 (upd (fun _ => 0) 0 (nI 0))), ((ad 62), aJ E 6000 (fun _ => 0)), ((ad 66), aJ E 2000 (fun _ => 0)), ((ad 67), aI E 2000 (fun _ => 0)), ((ad 7), ob 0 [.ref (ad 8), .ref (ad 10), .ref (ad 12), .ref (ad 14), .ref (ad 15), .ref (ad 16), .ref (ad 17), .ref (ad 18), .ref (ad 19), .ref (ad 20), .ref (ad 21), .ref (ad 22), .ref (ad 23), .ref (ad 24), .ref (ad 25), .ref (ad 26), .int 0, .ref (ad 27), .int 0, .int 0]), ((ad 80), aI E 64 gc), ((ad 63), aS E 4096 (fun _ => 0)), ((ad 76), ob 3 [.ref (ad 77), .ref (ad 78), .ref (ad 79), .ref (ad 71), .ref (ad 72), .ref (ad 73), .ref (ad 74), .ref (ad 75), .int (nI (2 * 4)), .int v2]), ((ad 77), aI E 64 gx), ((ad 78), aI E 64 gy), ((ad 79), aI E 64 gf), ((ad 61), ob 9 [.ref (ad 7), .ref (ad 30), .ref (ad 46), .ref (ad 62), .ref (ad 63), .ref (ad 64), .ref (ad 65), .ref (ad 66), .ref (ad 67), .ref (ad 68), .ref (ad 69), .int (nI 0), .int 0, .int 0, .int (-1), .ref (ad 70), .int (nI 0), .int (nI 0)]), ((ad 68), aJ E 3 (pkK gk (2 * 4))), ((ad 69), aI E 16 gk)] H := hP
  have hD : va_D A [(h0, ob 11 [.ref (ad 0), .ref (ad 7), .ref (ad 28), .ref (ad 30), .ref (ad 76), .ref (ad 46), .ref (ad 55), .ref (ad 57), .ref (ad 59), .ref (ad 61), .ref (ad 80), .int 0, .int 0, .int 0, .int (-1), .int (-1), .int (-1)]), ((ad 65), aI E 15 (upd (fun _ => 0) 0 (nI 0))), ((ad 62), aJ E 6000 (fun _ => 0)), ((ad 66), aJ E 2000 (fun _ => 0)), ((ad 67), aI E 2000 (fun _ => 0)), ((ad 7), ob 0 [.ref (ad 8), .ref (ad 10), .ref (ad 12), .ref (ad 14), .ref (ad 15), .ref (ad 16), .ref (ad 17), .ref (ad 18), .ref (ad 19), .ref (ad 20), .ref (ad 21), .ref (ad 22), .ref (ad 23), .ref (ad 24), .ref (ad 25), .ref (ad 26), .int 0, .ref (ad 27), .int 0, .int 0]), ((ad 80), aI E 64 gc), ((ad 63), aS E 4096 (fun _ => 0)), ((ad 76), ob 3 [.ref (ad 77), .ref (ad 78), .ref (ad 79), .ref (ad 71), .ref (ad 72), .ref (ad 73), .ref (ad 74), .ref (ad 75), .int (nI (2 * 4)), .int v2]), ((ad 77), aI E 64 gx), ((ad 78), aI E 64 gy), ((ad 79), aI E 64 gf), ((ad 61), ob 9 [.ref (ad 7), .ref (ad 30), .ref (ad 46), .ref (ad 62), .ref (ad 63), .ref (ad 64), .ref (ad 65), .ref (ad 66), .ref (ad 67), .ref (ad 68), .ref (ad 69), .int (nI 0), .int 0, .int 0, .int (-1), .ref (ad 70), .int (nI 0), .int (nI 0)]), ((ad 68), aJ E 3 (pkK gk (2 * 4))), ((ad 69), aI E 16 gk)] := hD
  rw [show pkK gk (2 * 4) = pkK stN 8 from pkK_congr 8 (fun d hd => hgk d (by omega))] at hP hD
  refine lv_aload_n hx hb dX9_explore_55 rfl (lv_at hl 0 rfl) ?_
  refine cI_go (wr := []) (cM_runV (As := []) (rest := []) F (z32_X9_meet l E h0 ad gx gy gf v2 gt gh gc dp gk hw1 hw3 hw4 hw5 hdp) yy_X9_meet yi_X9_meet wdM_RX9_96 hP hD hS hK hZ hA [0, 1, 2, 3, 4, 5, 6, 7, 8, 9, 10, 11, 12, 13, 14] rfl rfl 12 9 rfl rfl rfl hl.1 rfl (Nat.le_of_ble_eq_true rfl) dX9_explore_56 ⟨by decide, by decide⟩ ⟨by decide, by decide⟩) hP hD hS hA [0, 1, 2, 3, 4, 5, 6, 7, 8, 9, 10, 11, 12, 13, 14] [] rfl rfl rfl (by decide) (fun r_518 u_517 H locs hw_516 hP hD hS => ?_)
  try dsimp only at hw_516
  have hP : va_P E.1 vwCl [(h0, ob 11 [.ref (ad 0), .ref (ad 7), .ref (ad 28), .ref (ad 30), .ref (ad 76), .ref (ad 46), .ref (ad 55), .ref (ad 57), .ref (ad 59), .ref (ad 61), .ref (ad 80), .int 0, .int 0, .int 0, .int (-1), .int (-1), .int (-1)]), ((ad 65), aI E 15 (upd (fun _ => 0) 0 (nI 0))), ((ad 62), aJ E 6000 (fun j => if j < 3 then pkK stN 8 j else 0)), ((ad 66), aJ E 2000 (fun _ => 0)), ((ad 67), aI E 2000 (fun _ => 0)), ((ad 7), ob 0 [.ref (ad 8), .ref (ad 10), .ref (ad 12), .ref (ad 14), .ref (ad 15), .ref (ad 16), .ref (ad 17), .ref (ad 18), .ref (ad 19), .ref (ad 20), .ref (ad 21), .ref (ad 22), .ref (ad 23), .ref (ad 24), .ref (ad 25), .ref (ad 26), .int 0, .ref (ad 27), .int 0, .int 0]), ((ad 80), aI E 64 gc), ((ad 63), aS E 4096 (upd (fun _ => 0) 4022 (vp_nar .short (nI 1)))), ((ad 76), ob 3 [.ref (ad 77), .ref (ad 78), .ref (ad 79), .ref (ad 71), .ref (ad 72), .ref (ad 73), .ref (ad 74), .ref (ad 75), .int (nI (2 * 4)), .int v2]), ((ad 77), aI E 64 gx), ((ad 78), aI E 64 gy), ((ad 79), aI E 64 gf), ((ad 61), ob 9 [.ref (ad 7), .ref (ad 30), .ref (ad 46), .ref (ad 62), .ref (ad 63), .ref (ad 64), .ref (ad 65), .ref (ad 66), .ref (ad 67), .ref (ad 68), .ref (ad 69), .int (nI 1), .int 0, .int (nI 1), .int (-1), .ref (ad 70), .int (nI 0), .int (nI 0)]), ((ad 68), aJ E 3 (pkK stN 8)), ((ad 69), aI E 16 gk)] H := hP
  have hD : va_D A [(h0, ob 11 [.ref (ad 0), .ref (ad 7), .ref (ad 28), .ref (ad 30), .ref (ad 76), .ref (ad 46), .ref (ad 55), .ref (ad 57), .ref (ad 59), .ref (ad 61), .ref (ad 80), .int 0, .int 0, .int 0, .int (-1), .int (-1), .int (-1)]), ((ad 65), aI E 15 (upd (fun _ => 0) 0 (nI 0))), ((ad 62), aJ E 6000 (fun j => if j < 3 then pkK stN 8 j else 0)), ((ad 66), aJ E 2000 (fun _ => 0)), ((ad 67), aI E 2000 (fun _ => 0)), ((ad 7), ob 0 [.ref (ad 8), .ref (ad 10), .ref (ad 12), .ref (ad 14), .ref (ad 15), .ref (ad 16), .ref (ad 17), .ref (ad 18), .ref (ad 19), .ref (ad 20), .ref (ad 21), .ref (ad 22), .ref (ad 23), .ref (ad 24), .ref (ad 25), .ref (ad 26), .int 0, .ref (ad 27), .int 0, .int 0]), ((ad 80), aI E 64 gc), ((ad 63), aS E 4096 (upd (fun _ => 0) 4022 (vp_nar .short (nI 1)))), ((ad 76), ob 3 [.ref (ad 77), .ref (ad 78), .ref (ad 79), .ref (ad 71), .ref (ad 72), .ref (ad 73), .ref (ad 74), .ref (ad 75), .int (nI (2 * 4)), .int v2]), ((ad 77), aI E 64 gx), ((ad 78), aI E 64 gy), ((ad 79), aI E 64 gf), ((ad 61), ob 9 [.ref (ad 7), .ref (ad 30), .ref (ad 46), .ref (ad 62), .ref (ad 63), .ref (ad 64), .ref (ad 65), .ref (ad 66), .ref (ad 67), .ref (ad 68), .ref (ad 69), .int (nI 1), .int 0, .int (nI 1), .int (-1), .ref (ad 70), .int (nI 0), .int (nI 0)]), ((ad 68), aJ E 3 (pkK stN 8)), ((ad 69), aI E 16 gk)] := hD
  subst hw_516
  refine lv_if_ge (tgt := 65) hx hb dX9_explore_59 (by decide) (fun c_519 => ?_) (fun c_519 => absurd (by decide) c_519)
  refine lv_aload_n hx hb dX9_explore_65 rfl (lv_at hl 0 rfl) ?_
  refine va_get (D := E.1) (ci := 9) (v := .ref (ad 65)) (C := RX9) (T := TX9) (N := 18) hx hb hts iX9 hown hK hP 12 rfl rfl 6 (by decide) (hts _ wdF_RX9_23) (fun _ h9 => h9) rfl dX9_explore_66 ?_
  refine lv_iconst (v := nI 1) hx hb dX9_explore_69 (by decide) ?_
  refine lv_aload_n hx hb dX9_explore_70 rfl (lv_at hl 0 rfl) ?_
  refine va_get (D := E.1) (ci := 9) (v := .int (nI 1)) (C := RX9) (T := TX9) (N := 18) hx hb hts iX9 hown hK hP 12 rfl rfl 11 (by decide) (hts _ wdF_RX9_74) (fun _ h9 => h9) rfl dX9_explore_71 ?_
  refine va_iast hx hb hK hP hD hS 1 1 rfl rfl (vp_in_nI (by decide) (by decide)) dX9_explore_74 (fun H locs hP hD hS => ?_)
  have hP : va_P E.1 vwCl [(h0, ob 11 [.ref (ad 0), .ref (ad 7), .ref (ad 28), .ref (ad 30), .ref (ad 76), .ref (ad 46), .ref (ad 55), .ref (ad 57), .ref (ad 59), .ref (ad 61), .ref (ad 80), .int 0, .int 0, .int 0, .int (-1), .int (-1), .int (-1)]), ((ad 65), aI E 15 (upd (upd (fun _ => 0) 0 (nI 0)) (nI 1).toNatClampNeg (nI 1))), ((ad 62), aJ E 6000 (fun j => if j < 3 then pkK stN 8 j else 0)), ((ad 66), aJ E 2000 (fun _ => 0)), ((ad 67), aI E 2000 (fun _ => 0)), ((ad 7), ob 0 [.ref (ad 8), .ref (ad 10), .ref (ad 12), .ref (ad 14), .ref (ad 15), .ref (ad 16), .ref (ad 17), .ref (ad 18), .ref (ad 19), .ref (ad 20), .ref (ad 21), .ref (ad 22), .ref (ad 23), .ref (ad 24), .ref (ad 25), .ref (ad 26), .int 0, .ref (ad 27), .int 0, .int 0]), ((ad 80), aI E 64 gc), ((ad 63), aS E 4096 (upd (fun _ => 0) 4022 (vp_nar .short (nI 1)))), ((ad 76), ob 3 [.ref (ad 77), .ref (ad 78), .ref (ad 79), .ref (ad 71), .ref (ad 72), .ref (ad 73), .ref (ad 74), .ref (ad 75), .int (nI (2 * 4)), .int v2]), ((ad 77), aI E 64 gx), ((ad 78), aI E 64 gy), ((ad 79), aI E 64 gf), ((ad 61), ob 9 [.ref (ad 7), .ref (ad 30), .ref (ad 46), .ref (ad 62), .ref (ad 63), .ref (ad 64), .ref (ad 65), .ref (ad 66), .ref (ad 67), .ref (ad 68), .ref (ad 69), .int (nI 1), .int 0, .int (nI 1), .int (-1), .ref (ad 70), .int (nI 0), .int (nI 0)]), ((ad 68), aJ E 3 (pkK stN 8)), ((ad 69), aI E 16 gk)] H := hP
  have hD : va_D A [(h0, ob 11 [.ref (ad 0), .ref (ad 7), .ref (ad 28), .ref (ad 30), .ref (ad 76), .ref (ad 46), .ref (ad 55), .ref (ad 57), .ref (ad 59), .ref (ad 61), .ref (ad 80), .int 0, .int 0, .int 0, .int (-1), .int (-1), .int (-1)]), ((ad 65), aI E 15 (upd (upd (fun _ => 0) 0 (nI 0)) (nI 1).toNatClampNeg (nI 1))), ((ad 62), aJ E 6000 (fun j => if j < 3 then pkK stN 8 j else 0)), ((ad 66), aJ E 2000 (fun _ => 0)), ((ad 67), aI E 2000 (fun _ => 0)), ((ad 7), ob 0 [.ref (ad 8), .ref (ad 10), .ref (ad 12), .ref (ad 14), .ref (ad 15), .ref (ad 16), .ref (ad 17), .ref (ad 18), .ref (ad 19), .ref (ad 20), .ref (ad 21), .ref (ad 22), .ref (ad 23), .ref (ad 24), .ref (ad 25), .ref (ad 26), .int 0, .ref (ad 27), .int 0, .int 0]), ((ad 80), aI E 64 gc), ((ad 63), aS E 4096 (upd (fun _ => 0) 4022 (vp_nar .short (nI 1)))), ((ad 76), ob 3 [.ref (ad 77), .ref (ad 78), .ref (ad 79), .ref (ad 71), .ref (ad 72), .ref (ad 73), .ref (ad 74), .ref (ad 75), .int (nI (2 * 4)), .int v2]), ((ad 77), aI E 64 gx), ((ad 78), aI E 64 gy), ((ad 79), aI E 64 gf), ((ad 61), ob 9 [.ref (ad 7), .ref (ad 30), .ref (ad 46), .ref (ad 62), .ref (ad 63), .ref (ad 64), .ref (ad 65), .ref (ad 66), .ref (ad 67), .ref (ad 68), .ref (ad 69), .int (nI 1), .int 0, .int (nI 1), .int (-1), .ref (ad 70), .int (nI 0), .int (nI 0)]), ((ad 68), aJ E 3 (pkK stN 8)), ((ad 69), aI E 16 gk)] := hD
  rw [nI_clamp (n := 1) (by decide)] at hP hD
  refine lv_iconst (v := nI 0) hx hb dX9_explore_75 (by decide) ?_
  refine lv_istore (lv' := [(4, .int (nI 0)), (0, .ref (ad 61)), (1, .int (nI dp)), (2, .ref (ad 76)), (3, .ref (ad 80))]) hx hb dX9_explore_76 hl (by decide) rfl (fun ls hl => ?_)
  refine lv_iload hx hb dX9_explore_78 (lv_at hl 0 rfl) ?_
  refine lv_iload_n hx hb dX9_explore_80 rfl (lv_at hl 2 rfl) ?_
  refine lv_icmp_gt (tgt := 173) hx hb dX9_explore_81 (by decide) (fun c_520 => absurd c_520 (fun h => absurd ((nI_ltI (by omega) (by decide)).mp h) (by omega))) (fun c_520 => ?_)
  refine lv_iload hx hb dX9_explore_84 (lv_at hl 0 rfl) ?_
  refine lv_bipush (v := nI 12) hx hb dX9_explore_86 (by decide) ?_
  refine lv_icmp_gt (tgt := 173) hx hb dX9_explore_88 (by decide) (fun c_521 => absurd c_521 (by decide)) (fun c_521 => ?_)
  refine lv_aload_n hx hb dX9_explore_91 rfl (lv_at hl 1 rfl) ?_
  refine lv_aload_n hx hb dX9_explore_92 rfl (lv_at hl 4 rfl) ?_
  refine lv_aload_n hx hb dX9_explore_93 rfl (lv_at hl 3 rfl) ?_
  refine va_get (D := E.1) (ci := 3) (v := .int (nI (2 * 4))) (C := RX3) (T := TX3) (N := 10) hx hb hts iX3 hown hK hP 8 rfl rfl 8 (by decide) (hts _ wdF_RX9_91) (fun _ h9 => h9) rfl dX9_explore_94 ?_
  refine cV_go (wr := [(h0, ob 11 [.ref (ad 0), .ref (ad 7), .ref (ad 28), .ref (ad 30), .ref (ad 76), .ref (ad 46), .ref (ad 55), .ref (ad 57), .ref (ad 59), .ref (ad 61), .ref (ad 80), .int 0, .int 0, .int 0, .int (-1), .int (-1), .int (-1)]), ((ad 65), aI E 15 (upd (upd (fun _ => 0) 0 (nI 0)) 1 (nI 1))), ((ad 62), aJ E 6000 (fun j => if j < 3 then pkK stN 8 j else 0)), ((ad 66), aJ E 2000 (fun _ => 0)), ((ad 67), aI E 2000 (fun _ => 0)), ((ad 7), ob 0 [.ref (ad 8), .ref (ad 10), .ref (ad 12), .ref (ad 14), .ref (ad 15), .ref (ad 16), .ref (ad 17), .ref (ad 18), .ref (ad 19), .ref (ad 20), .ref (ad 21), .ref (ad 22), .ref (ad 23), .ref (ad 24), .ref (ad 25), .ref (ad 26), .int 0, .ref (ad 27), .int 0, .int 0]), ((ad 63), aS E 4096 (upd (fun _ => 0) 4022 (vp_nar .short (nI 1)))), ((ad 76), ob 3 [.ref (ad 77), .ref (ad 78), .ref (ad 79), .ref (ad 71), .ref (ad 72), .ref (ad 73), .ref (ad 74), .ref (ad 75), .int (nI (2 * 4)), .int v2]), ((ad 77), aI E 64 gx), ((ad 78), aI E 64 gy), ((ad 79), aI E 64 gf), ((ad 69), aI E 16 gk)]) (cM_runV (As := [.ref (ad 80), .int (nI (2 * 4))]) (rest := []) F (c_X9_pack l E h0 ad gx gy gf v2 gt gh gc (nI 1) 0 (nI 1) (-1) (nI 0) (nI 0) (ad 80) 64 gc (pkK stN 8) (2 * 4) (by decide) (by decide) (by decide)) yy_X9_pack yi_X9_pack wdM_RX9_92 hP hD hS hK hZ hA [12, 13, 6] rfl rfl 12 9 rfl rfl rfl hl.1 rfl (Nat.le_of_ble_eq_true rfl) dX9_explore_97 ⟨by decide, by decide⟩ ⟨by decide, by decide⟩) hP hD hS hA [12, 13, 6] [0, 1, 2, 3, 4, 5, 7, 8, 9, 10, 11, 14] rfl rfl rfl (by decide) (fun u_523 H locs hw_522 hP hD hS => ?_)
  try dsimp only at hw_522
  have hP : va_P E.1 vwCl [(h0, ob 11 [.ref (ad 0), .ref (ad 7), .ref (ad 28), .ref (ad 30), .ref (ad 76), .ref (ad 46), .ref (ad 55), .ref (ad 57), .ref (ad 59), .ref (ad 61), .ref (ad 80), .int 0, .int 0, .int 0, .int (-1), .int (-1), .int (-1)]), ((ad 65), aI E 15 (upd (upd (fun _ => 0) 0 (nI 0)) 1 (nI 1))), ((ad 62), aJ E 6000 (fun j => if j < 3 then pkK stN 8 j else 0)), ((ad 66), aJ E 2000 (fun _ => 0)), ((ad 67), aI E 2000 (fun _ => 0)), ((ad 7), ob 0 [.ref (ad 8), .ref (ad 10), .ref (ad 12), .ref (ad 14), .ref (ad 15), .ref (ad 16), .ref (ad 17), .ref (ad 18), .ref (ad 19), .ref (ad 20), .ref (ad 21), .ref (ad 22), .ref (ad 23), .ref (ad 24), .ref (ad 25), .ref (ad 26), .int 0, .ref (ad 27), .int 0, .int 0]), ((ad 63), aS E 4096 (upd (fun _ => 0) 4022 (vp_nar .short (nI 1)))), ((ad 76), ob 3 [.ref (ad 77), .ref (ad 78), .ref (ad 79), .ref (ad 71), .ref (ad 72), .ref (ad 73), .ref (ad 74), .ref (ad 75), .int (nI (2 * 4)), .int v2]), ((ad 77), aI E 64 gx), ((ad 78), aI E 64 gy), ((ad 79), aI E 64 gf), ((ad 69), aI E 16 gk), ((ad 61), ob 9 [.ref (ad 7), .ref (ad 30), .ref (ad 46), .ref (ad 62), .ref (ad 63), .ref (ad 64), .ref (ad 65), .ref (ad 66), .ref (ad 67), .ref (ad 68), .ref (ad 69), .int (nI 1), .int 0, .int (nI 1), .int (-1), .ref (ad 70), .int (nI 0), .int (nI 0)]), ((ad 68), aJ E 3 (pkK gc (2 * 4))), ((ad 80), aI E 64 gc)] H := hP
  have hD : va_D A [(h0, ob 11 [.ref (ad 0), .ref (ad 7), .ref (ad 28), .ref (ad 30), .ref (ad 76), .ref (ad 46), .ref (ad 55), .ref (ad 57), .ref (ad 59), .ref (ad 61), .ref (ad 80), .int 0, .int 0, .int 0, .int (-1), .int (-1), .int (-1)]), ((ad 65), aI E 15 (upd (upd (fun _ => 0) 0 (nI 0)) 1 (nI 1))), ((ad 62), aJ E 6000 (fun j => if j < 3 then pkK stN 8 j else 0)), ((ad 66), aJ E 2000 (fun _ => 0)), ((ad 67), aI E 2000 (fun _ => 0)), ((ad 7), ob 0 [.ref (ad 8), .ref (ad 10), .ref (ad 12), .ref (ad 14), .ref (ad 15), .ref (ad 16), .ref (ad 17), .ref (ad 18), .ref (ad 19), .ref (ad 20), .ref (ad 21), .ref (ad 22), .ref (ad 23), .ref (ad 24), .ref (ad 25), .ref (ad 26), .int 0, .ref (ad 27), .int 0, .int 0]), ((ad 63), aS E 4096 (upd (fun _ => 0) 4022 (vp_nar .short (nI 1)))), ((ad 76), ob 3 [.ref (ad 77), .ref (ad 78), .ref (ad 79), .ref (ad 71), .ref (ad 72), .ref (ad 73), .ref (ad 74), .ref (ad 75), .int (nI (2 * 4)), .int v2]), ((ad 77), aI E 64 gx), ((ad 78), aI E 64 gy), ((ad 79), aI E 64 gf), ((ad 69), aI E 16 gk), ((ad 61), ob 9 [.ref (ad 7), .ref (ad 30), .ref (ad 46), .ref (ad 62), .ref (ad 63), .ref (ad 64), .ref (ad 65), .ref (ad 66), .ref (ad 67), .ref (ad 68), .ref (ad 69), .int (nI 1), .int 0, .int (nI 1), .int (-1), .ref (ad 70), .int (nI 0), .int (nI 0)]), ((ad 68), aJ E 3 (pkK gc (2 * 4))), ((ad 80), aI E 64 gc)] := hD
  rw [show pkK gc (2 * 4) = pkK stN 8 from pkK_congr 8 (fun d hd => hw5 d (by omega))] at hP hD
  refine lv_aload_n hx hb dX9_explore_100 rfl (lv_at hl 1 rfl) ?_
  refine va_get (D := E.1) (ci := 9) (v := .ref (ad 63)) (C := RX9) (T := TX9) (N := 18) hx hb hts iX9 hown hK hP 12 rfl rfl 4 (by decide) (hts _ wdF_RX9_15) (fun _ h9 => h9) rfl dX9_explore_101 ?_
  refine lv_aload_n hx hb dX9_explore_104 rfl (lv_at hl 1 rfl) ?_
  refine cI_go (wr := []) (cM_runV (As := []) (rest := [.ref (ad 63)]) F (z34_X9_placeOfKey l E h0 ad gx gy gf v2 gt gh gc dp gk hw1 hw3 hw4 hw5 hdp) yy_X9_placeOfKey yi_X9_placeOfKey wdM_RX9_100 hP hD hS hK hZ hA [0, 1, 2, 3, 4, 5, 6, 7, 8, 9, 10, 11, 12, 13, 14] rfl rfl 12 9 rfl rfl rfl hl.1 rfl (Nat.le_of_ble_eq_true rfl) dX9_explore_105 ⟨by decide, by decide⟩ ⟨by decide, by decide⟩) hP hD hS hA [0, 1, 2, 3, 4, 5, 6, 7, 8, 9, 10, 11, 12, 13, 14] [] rfl rfl rfl (by decide) (fun r_532 u_531 H locs hw_530 hP hD hS => ?_)
  try dsimp only at hw_530
  have hP : va_P E.1 vwCl [(h0, ob 11 [.ref (ad 0), .ref (ad 7), .ref (ad 28), .ref (ad 30), .ref (ad 76), .ref (ad 46), .ref (ad 55), .ref (ad 57), .ref (ad 59), .ref (ad 61), .ref (ad 80), .int 0, .int 0, .int 0, .int (-1), .int (-1), .int (-1)]), ((ad 65), aI E 15 (upd (upd (fun _ => 0) 0 (nI 0)) 1 (nI 1))), ((ad 62), aJ E 6000 (fun j => if j < 3 then pkK stN 8 j else 0)), ((ad 66), aJ E 2000 (fun _ => 0)), ((ad 67), aI E 2000 (fun _ => 0)), ((ad 7), ob 0 [.ref (ad 8), .ref (ad 10), .ref (ad 12), .ref (ad 14), .ref (ad 15), .ref (ad 16), .ref (ad 17), .ref (ad 18), .ref (ad 19), .ref (ad 20), .ref (ad 21), .ref (ad 22), .ref (ad 23), .ref (ad 24), .ref (ad 25), .ref (ad 26), .int 0, .ref (ad 27), .int 0, .int 0]), ((ad 63), aS E 4096 (upd (fun _ => 0) 4022 (vp_nar .short (nI 1)))), ((ad 76), ob 3 [.ref (ad 77), .ref (ad 78), .ref (ad 79), .ref (ad 71), .ref (ad 72), .ref (ad 73), .ref (ad 74), .ref (ad 75), .int (nI (2 * 4)), .int v2]), ((ad 77), aI E 64 gx), ((ad 78), aI E 64 gy), ((ad 79), aI E 64 gf), ((ad 69), aI E 16 gk), ((ad 61), ob 9 [.ref (ad 7), .ref (ad 30), .ref (ad 46), .ref (ad 62), .ref (ad 63), .ref (ad 64), .ref (ad 65), .ref (ad 66), .ref (ad 67), .ref (ad 68), .ref (ad 69), .int (nI 1), .int 0, .int (nI 1), .int (-1), .ref (ad 70), .int (nI 0), .int (nI 0)]), ((ad 68), aJ E 3 (pkK stN 8)), ((ad 80), aI E 64 gc)] H := hP
  have hD : va_D A [(h0, ob 11 [.ref (ad 0), .ref (ad 7), .ref (ad 28), .ref (ad 30), .ref (ad 76), .ref (ad 46), .ref (ad 55), .ref (ad 57), .ref (ad 59), .ref (ad 61), .ref (ad 80), .int 0, .int 0, .int 0, .int (-1), .int (-1), .int (-1)]), ((ad 65), aI E 15 (upd (upd (fun _ => 0) 0 (nI 0)) 1 (nI 1))), ((ad 62), aJ E 6000 (fun j => if j < 3 then pkK stN 8 j else 0)), ((ad 66), aJ E 2000 (fun _ => 0)), ((ad 67), aI E 2000 (fun _ => 0)), ((ad 7), ob 0 [.ref (ad 8), .ref (ad 10), .ref (ad 12), .ref (ad 14), .ref (ad 15), .ref (ad 16), .ref (ad 17), .ref (ad 18), .ref (ad 19), .ref (ad 20), .ref (ad 21), .ref (ad 22), .ref (ad 23), .ref (ad 24), .ref (ad 25), .ref (ad 26), .int 0, .ref (ad 27), .int 0, .int 0]), ((ad 63), aS E 4096 (upd (fun _ => 0) 4022 (vp_nar .short (nI 1)))), ((ad 76), ob 3 [.ref (ad 77), .ref (ad 78), .ref (ad 79), .ref (ad 71), .ref (ad 72), .ref (ad 73), .ref (ad 74), .ref (ad 75), .int (nI (2 * 4)), .int v2]), ((ad 77), aI E 64 gx), ((ad 78), aI E 64 gy), ((ad 79), aI E 64 gf), ((ad 69), aI E 16 gk), ((ad 61), ob 9 [.ref (ad 7), .ref (ad 30), .ref (ad 46), .ref (ad 62), .ref (ad 63), .ref (ad 64), .ref (ad 65), .ref (ad 66), .ref (ad 67), .ref (ad 68), .ref (ad 69), .int (nI 1), .int 0, .int (nI 1), .int (-1), .ref (ad 70), .int (nI 0), .int (nI 0)]), ((ad 68), aJ E 3 (pkK stN 8)), ((ad 80), aI E 64 gc)] := hD
  subst hw_530
  refine va_sald hx hb hK hP 6 3 rfl rfl (vp_in_nI (by decide) (by decide)) dX9_explore_108 ?_
  rw [nI_clamp (n := 4022) (by decide)]
  rw [show ((upd (fun _ => 0) 4022 (vp_nar .short (nI 1))) 4022 : Int32) = nI 1 from by decide]
  refine lv_iconst (v := nI 1) hx hb dX9_explore_109 (by decide) ?_
  refine lv_isub hx hb dX9_explore_110 ?_
  rw [show ((nI 1) - (nI 1) : Int32) = nI 0 from by decide]
  refine lv_istore (lv' := [(5, .int (nI 0)), (4, .int (nI 0)), (0, .ref (ad 61)), (1, .int (nI dp)), (2, .ref (ad 76)), (3, .ref (ad 80))]) hx hb dX9_explore_111 hl (by decide) rfl (fun ls hl => ?_)
  refine lv_iload hx hb dX9_explore_113 (lv_at hl 0 rfl) ?_
  refine lv_if_lt (tgt := 129) hx hb dX9_explore_115 (by decide) (fun c_533 => absurd c_533 (by decide)) (fun c_533 => ?_)
  refine lv_aload_n hx hb dX9_explore_118 rfl (lv_at hl 2 rfl) ?_
  refine lv_iload hx hb dX9_explore_119 (lv_at hl 1 rfl) ?_
  refine lv_iload hx hb dX9_explore_121 (lv_at hl 0 rfl) ?_
  refine cV_go (wr := []) (cM_runV (As := [.int (nI 0), .int (nI 0)]) (rest := []) F (z35_X9_findRows l E h0 ad gx gy gf v2 gt gh gc dp gk hw1 hw3 hw4 hw5 hdp) yy_X9_findRows yi_X9_findRows wdM_RX9_103 hP hD hS hK hZ hA [0, 1, 2, 3, 4, 5, 6, 7, 8, 9, 10, 11, 12, 13, 14] rfl rfl 12 9 rfl rfl rfl hl.1 rfl (Nat.le_of_ble_eq_true rfl) dX9_explore_123 ⟨by decide, by decide⟩ ⟨by decide, by decide⟩) hP hD hS hA [0, 1, 2, 3, 4, 5, 6, 7, 8, 9, 10, 11, 12, 13, 14] [] rfl rfl rfl (by decide) (fun u_539 H locs hw_538 hP hD hS => ?_)
  try dsimp only at hw_538
  have hP : va_P E.1 vwCl [(h0, ob 11 [.ref (ad 0), .ref (ad 7), .ref (ad 28), .ref (ad 30), .ref (ad 76), .ref (ad 46), .ref (ad 55), .ref (ad 57), .ref (ad 59), .ref (ad 61), .ref (ad 80), .int 0, .int 0, .int 0, .int (-1), .int (-1), .int (-1)]), ((ad 65), aI E 15 (upd (upd (fun _ => 0) 0 (nI 0)) 1 (nI 1))), ((ad 62), aJ E 6000 (fun j => if j < 3 then pkK stN 8 j else 0)), ((ad 67), aI E 2000 (upd (fun _ => 0) 0 (nI 0))), ((ad 7), ob 0 [.ref (ad 8), .ref (ad 10), .ref (ad 12), .ref (ad 14), .ref (ad 15), .ref (ad 16), .ref (ad 17), .ref (ad 18), .ref (ad 19), .ref (ad 20), .ref (ad 21), .ref (ad 22), .ref (ad 23), .ref (ad 24), .ref (ad 25), .ref (ad 26), .int 0, .ref (ad 27), .int 0, .int 0]), ((ad 63), aS E 4096 (upd (fun _ => 0) 4022 (vp_nar .short (nI 1)))), ((ad 76), ob 3 [.ref (ad 77), .ref (ad 78), .ref (ad 79), .ref (ad 71), .ref (ad 72), .ref (ad 73), .ref (ad 74), .ref (ad 75), .int (nI (2 * 4)), .int v2]), ((ad 77), aI E 64 gx), ((ad 78), aI E 64 gy), ((ad 79), aI E 64 gf), ((ad 69), aI E 16 gk), ((ad 61), ob 9 [.ref (ad 7), .ref (ad 30), .ref (ad 46), .ref (ad 62), .ref (ad 63), .ref (ad 64), .ref (ad 65), .ref (ad 66), .ref (ad 67), .ref (ad 68), .ref (ad 69), .int (nI 1), .int 0, .int (nI 1), .int (nI 0), .ref (ad 70), .int (nI 0), .int (nI 0)]), ((ad 68), aJ E 3 (pkK stN 8)), ((ad 80), aI E 64 gc), ((ad 66), aJ E 2000 (vp_updL (fun _ => 0) 0 1))] H := hP
  have hD : va_D A [(h0, ob 11 [.ref (ad 0), .ref (ad 7), .ref (ad 28), .ref (ad 30), .ref (ad 76), .ref (ad 46), .ref (ad 55), .ref (ad 57), .ref (ad 59), .ref (ad 61), .ref (ad 80), .int 0, .int 0, .int 0, .int (-1), .int (-1), .int (-1)]), ((ad 65), aI E 15 (upd (upd (fun _ => 0) 0 (nI 0)) 1 (nI 1))), ((ad 62), aJ E 6000 (fun j => if j < 3 then pkK stN 8 j else 0)), ((ad 67), aI E 2000 (upd (fun _ => 0) 0 (nI 0))), ((ad 7), ob 0 [.ref (ad 8), .ref (ad 10), .ref (ad 12), .ref (ad 14), .ref (ad 15), .ref (ad 16), .ref (ad 17), .ref (ad 18), .ref (ad 19), .ref (ad 20), .ref (ad 21), .ref (ad 22), .ref (ad 23), .ref (ad 24), .ref (ad 25), .ref (ad 26), .int 0, .ref (ad 27), .int 0, .int 0]), ((ad 63), aS E 4096 (upd (fun _ => 0) 4022 (vp_nar .short (nI 1)))), ((ad 76), ob 3 [.ref (ad 77), .ref (ad 78), .ref (ad 79), .ref (ad 71), .ref (ad 72), .ref (ad 73), .ref (ad 74), .ref (ad 75), .int (nI (2 * 4)), .int v2]), ((ad 77), aI E 64 gx), ((ad 78), aI E 64 gy), ((ad 79), aI E 64 gf), ((ad 69), aI E 16 gk), ((ad 61), ob 9 [.ref (ad 7), .ref (ad 30), .ref (ad 46), .ref (ad 62), .ref (ad 63), .ref (ad 64), .ref (ad 65), .ref (ad 66), .ref (ad 67), .ref (ad 68), .ref (ad 69), .int (nI 1), .int 0, .int (nI 1), .int (nI 0), .ref (ad 70), .int (nI 0), .int (nI 0)]), ((ad 68), aJ E 3 (pkK stN 8)), ((ad 80), aI E 64 gc), ((ad 66), aJ E 2000 (vp_updL (fun _ => 0) 0 1))] := hD
  refine lv_iload hx hb dX9_explore_126 (lv_at hl 1 rfl) ?_
  exact cI_ret F hP hD hS hK () rfl [] rfl rfl dX9_explore_128 (by decide) (by decide)
theorem yy_X9_explore : cY yX9_explore cX9_explore 6 (some .int) 3 := ⟨wdK_X9_explore, wdZ_RX9, by decide +kernel⟩
theorem yi_X9_explore : cYi yX9_explore := ⟨wdN_X9_explore, wdS_X9_explore⟩
theorem dX11_resolve_0 : decode cX11_resolve 0 = .ok (.iload_n 1, 1) := by decide +kernel
theorem dX11_resolve_1 : decode cX11_resolve 1 = .ok (.ifCond .lt 21, 3) := by decide +kernel
theorem dX11_resolve_4 : decode cX11_resolve 4 = .ok (.iload_n 1, 1) := by decide +kernel
theorem dX11_resolve_5 : decode cX11_resolve 5 = .ok (.bipush 12, 2) := by decide +kernel
theorem dX11_resolve_7 : decode cX11_resolve 7 = .ok (.if_icmp .gt 15, 3) := by decide +kernel
theorem dX11_resolve_10 : decode cX11_resolve 10 = .ok (.aload_n 0, 1) := by decide +kernel
theorem dX11_resolve_11 : decode cX11_resolve 11 = .ok (.getfield 44, 3) := by decide +kernel
theorem dX11_resolve_14 : decode cX11_resolve 14 = .ok (.getfield 221, 3) := by decide +kernel
theorem dX11_resolve_17 : decode cX11_resolve 17 = .ok (.bipush 16, 2) := by decide +kernel
theorem dX11_resolve_19 : decode cX11_resolve 19 = .ok (.if_icmp .le 6, 3) := by decide +kernel
theorem dX11_resolve_22 : decode cX11_resolve 22 = .ok (.bipush (-3), 2) := by decide +kernel
theorem dX11_resolve_24 : decode cX11_resolve 24 = .ok (.ireturn, 1) := by decide +kernel
theorem dX11_resolve_25 : decode cX11_resolve 25 = .ok (.aload_n 0, 1) := by decide +kernel
theorem dX11_resolve_26 : decode cX11_resolve 26 = .ok (.getfield 75, 3) := by decide +kernel
theorem dX11_resolve_29 : decode cX11_resolve 29 = .ok (.iload_n 1, 1) := by decide +kernel
theorem dX11_resolve_30 : decode cX11_resolve 30 = .ok (.aload_n 0, 1) := by decide +kernel
theorem dX11_resolve_31 : decode cX11_resolve 31 = .ok (.getfield 44, 3) := by decide +kernel
theorem dX11_resolve_34 : decode cX11_resolve 34 = .ok (.aload_n 0, 1) := by decide +kernel
theorem dX11_resolve_35 : decode cX11_resolve 35 = .ok (.getfield 79, 3) := by decide +kernel
theorem dX11_resolve_38 : decode cX11_resolve 38 = .ok (.invokevirtual 222, 3) := by decide +kernel
theorem dX11_resolve_41 : decode cX11_resolve 41 = .ok (.ireturn, 1) := by decide +kernel
abbrev rm_p_X11_resolve : Room := { frames := 4, cells := 0, slots := 0, locals := 106 }
set_option maxHeartbeats 4000000 in
set_option maxRecDepth 100000 in
theorem p_X11_resolve (l : Launch) (E : cE) (h0 : Nat) (ad : Nat → Nat) (gx : Nat → Int32) (gy : Nat → Int32) (gf : Nat → Int32) (v2 : Int32) (gt : Nat → Int32) (gh : Nat → Int32) (gc : Nat → Int32) (v : Int32) (hw1 : flo (stC 0) (2 * 4) gx gy gf) (hw3 : ∀ d, d < 2 * 4 → gt d = 0) (hw4 : ∀ d, d < 2 * 4 → gh d = nI (stC 0 d)) (hw5 : ∀ d, d < 2 * 4 → gc d = nI (stC 0 d)) : cM l E yX11_resolve cX11_resolve 2 (some .int) rm_p_X11_resolve [.ref h0, .int v] [(h0, ob 11 [.ref (ad 0), .ref (ad 7), .ref (ad 28), .ref (ad 30), .ref (ad 76), .ref (ad 46), .ref (ad 55), .ref (ad 57), .ref (ad 59), .ref (ad 61), .ref (ad 80), .int 0, .int 0, .int 0, .int (-1), .int (-1), .int (-1)]), ((ad 61), ob 9 [.ref (ad 7), .ref (ad 30), .ref (ad 46), .ref (ad 62), .ref (ad 63), .ref (ad 64), .ref (ad 65), .ref (ad 66), .ref (ad 67), .ref (ad 68), .ref (ad 69), .int 0, .int 0, .int 0, .int (-1), .ref (ad 70), .int 0, .int 0]), ((ad 63), aS E 4096 (fun _ => 0)), ((ad 65), aI E 15 (fun _ => 0)), ((ad 69), aI E 16 (fun _ => 0)), ((ad 68), aJ E 3 (fun _ => 0)), ((ad 62), aJ E 6000 (fun _ => 0)), ((ad 66), aJ E 2000 (fun _ => 0)), ((ad 67), aI E 2000 (fun _ => 0)), ((ad 7), ob 0 [.ref (ad 8), .ref (ad 10), .ref (ad 12), .ref (ad 14), .ref (ad 15), .ref (ad 16), .ref (ad 17), .ref (ad 18), .ref (ad 19), .ref (ad 20), .ref (ad 21), .ref (ad 22), .ref (ad 23), .ref (ad 24), .ref (ad 25), .ref (ad 26), .int 0, .ref (ad 27), .int 0, .int 0]), ((ad 76), ob 3 [.ref (ad 77), .ref (ad 78), .ref (ad 79), .ref (ad 71), .ref (ad 72), .ref (ad 73), .ref (ad 74), .ref (ad 75), .int (nI (2 * 4)), .int v2]), ((ad 77), aI E 64 gx), ((ad 78), aI E 64 gy), ((ad 79), aI E 64 gf), ((ad 80), aI E 64 gc)] (qI E (fun (r : Int32) (_u : Unit) => r = if v < 0 ∨ 12 < v then -3 else 0) (fun _ => [])) := by
  refine cM_of (by decide) (Nat.le_of_ble_eq_true rfl) ?_
  intro p e s m below meth c ls A F hA hS hP hD hK hZ hl
  obtain ⟨hx, hb, hr, hml, hown, hts, hlk, hin⟩ := id F
  have hown : s.vm.findClass RX11 = some m.cls := hown
  have hl : lv_has ls 2 [(0, .ref h0), (1, .int v)] := hl
  refine lv_iload_n hx hb dX11_resolve_0 rfl (lv_at hl 1 rfl) ?_
  refine lv_if_lt (tgt := 22) hx hb dX11_resolve_1 (by decide) (fun c1 => ?_) (fun c1 => ?_)
  · refine lv_bipush (v := (-3)) hx hb dX11_resolve_22 (by decide) ?_
    exact cI_ret F hP hD hS hK () (if_pos (Or.inl c1)).symm [] rfl rfl dX11_resolve_24 (by decide) (by decide)
  · refine lv_iload_n hx hb dX11_resolve_4 rfl (lv_at hl 1 rfl) ?_
    refine lv_bipush (v := nI 12) hx hb dX11_resolve_5 (by decide) ?_
    refine lv_icmp_gt (tgt := 22) hx hb dX11_resolve_7 (by decide) (fun c2 => ?_) (fun c2 => ?_)
    · refine lv_bipush (v := (-3)) hx hb dX11_resolve_22 (by decide) ?_
      exact cI_ret F hP hD hS hK () (if_pos (Or.inr c2)).symm [] rfl rfl dX11_resolve_24 (by decide) (by decide)
    · obtain ⟨dp, hdp, e9⟩ := nI_of2 (x := v) (M := 12) (n := 12) (by decide) c1 (Int32.not_lt.mp c2)
      subst e9
      refine lv_aload_n hx hb dX11_resolve_10 rfl (lv_at hl 0 rfl) ?_
      refine va_get (D := E.1) (ci := 11) (v := .ref (ad 76)) (C := RX11) (T := TX11) (N := 17) hx hb hts iX11 hown hK hP 0 rfl rfl 4 (by decide) (hts _ wdF_RX11_44) (fun _ h9 => h9) rfl dX11_resolve_11 ?_
      refine va_get (D := E.1) (ci := 3) (v := .int (nI (2 * 4))) (C := RX3) (T := TX3) (N := 10) hx hb hts iX3 hown hK hP 10 rfl rfl 8 (by decide) (hts _ wdF_RX11_221) (fun _ h9 => h9) rfl dX11_resolve_14 ?_
      refine lv_bipush (v := nI 16) hx hb dX11_resolve_17 (by decide) ?_
      refine lv_icmp_le (tgt := 25) hx hb dX11_resolve_19 (by decide) (fun c_541 => ?_) (fun c_541 => absurd (by decide) c_541)
      refine lv_aload_n hx hb dX11_resolve_25 rfl (lv_at hl 0 rfl) ?_
      refine va_get (D := E.1) (ci := 11) (v := .ref (ad 61)) (C := RX11) (T := TX11) (N := 17) hx hb hts iX11 hown hK hP 0 rfl rfl 9 (by decide) (hts _ wdF_RX11_75) (fun _ h9 => h9) rfl dX11_resolve_26 ?_
      refine lv_iload_n hx hb dX11_resolve_29 rfl (lv_at hl 1 rfl) ?_
      refine lv_aload_n hx hb dX11_resolve_30 rfl (lv_at hl 0 rfl) ?_
      refine va_get (D := E.1) (ci := 11) (v := .ref (ad 76)) (C := RX11) (T := TX11) (N := 17) hx hb hts iX11 hown hK hP 0 rfl rfl 4 (by decide) (hts _ wdF_RX11_44) (fun _ h9 => h9) rfl dX11_resolve_31 ?_
      refine lv_aload_n hx hb dX11_resolve_34 rfl (lv_at hl 0 rfl) ?_
      refine va_get (D := E.1) (ci := 11) (v := .ref (ad 80)) (C := RX11) (T := TX11) (N := 17) hx hb hts iX11 hown hK hP 0 rfl rfl 10 (by decide) (hts _ wdF_RX11_79) (fun _ h9 => h9) rfl dX11_resolve_35 ?_
      refine cI_go (wr := []) (cM_runV (As := [.int (nI dp), .ref (ad 76), .ref (ad 80)]) (rest := []) F (p_X9_explore l E h0 ad gx gy gf v2 gt gh gc dp hw1 hw3 hw4 hw5 hdp) yy_X9_explore yi_X9_explore wdM_RX11_222 hP hD hS hK hZ hA [0, 1, 2, 3, 4, 5, 6, 7, 8, 9, 10, 11, 12, 13, 14] rfl rfl 1 9 rfl rfl rfl hl.1 rfl (Nat.le_of_ble_eq_true rfl) dX11_resolve_38 ⟨by decide, by decide⟩ ⟨by decide, by decide⟩) hP hD hS hA [0, 1, 2, 3, 4, 5, 6, 7, 8, 9, 10, 11, 12, 13, 14] [] rfl rfl rfl (by decide) (fun r_544 u_543 H locs hw_542 hP hD hS => ?_)
      try dsimp only at hw_542
      have hP : va_P E.1 vwCl [] H := hP
      have hD : va_D A [] := hD
      subst hw_542
      exact cI_ret F hP hD hS hK () (if_neg (fun h => h.elim c1 c2)).symm [] rfl rfl dX11_resolve_41 (by decide) (by decide)
theorem yy_X11_resolve : cY yX11_resolve cX11_resolve 2 (some .int) 1 := ⟨wdK_X11_resolve, wdZ_RX11, by decide +kernel⟩
theorem yi_X11_resolve : cYi yX11_resolve := ⟨wdN_X11_resolve, wdS_X11_resolve⟩
