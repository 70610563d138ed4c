theorem dX12_givesFloor_0 : decode cX12_givesFloor 0 = .ok (.iconst 0, 1) := by decide +kernel
theorem dX12_givesFloor_1 : decode cX12_givesFloor 1 = .ok (.istore_n 1, 1) := by decide +kernel
theorem dX12_givesFloor_2 : decode cX12_givesFloor 2 = .ok (.iload_n 1, 1) := by decide +kernel
theorem dX12_givesFloor_3 : decode cX12_givesFloor 3 = .ok (.bipush 64, 2) := by decide +kernel
theorem dX12_givesFloor_5 : decode cX12_givesFloor 5 = .ok (.if_icmp .ge 68, 3) := by decide +kernel
theorem dX12_givesFloor_8 : decode cX12_givesFloor 8 = .ok (.aload_n 0, 1) := by decide +kernel
theorem dX12_givesFloor_9 : decode cX12_givesFloor 9 = .ok (.getfield 71, 3) := by decide +kernel
theorem dX12_givesFloor_12 : decode cX12_givesFloor 12 = .ok (.iload_n 1, 1) := by decide +kernel
theorem dX12_givesFloor_13 : decode cX12_givesFloor 13 = .ok (.aload_n 0, 1) := by decide +kernel
theorem dX12_givesFloor_14 : decode cX12_givesFloor 14 = .ok (.getfield 202, 3) := by decide +kernel
theorem dX12_givesFloor_17 : decode cX12_givesFloor 17 = .ok (.iload_n 1, 1) := by decide +kernel
theorem dX12_givesFloor_18 : decode cX12_givesFloor 18 = .ok (.iaload, 1) := by decide +kernel
theorem dX12_givesFloor_19 : decode cX12_givesFloor 19 = .ok (.iastore, 1) := by decide +kernel
theorem dX12_givesFloor_20 : decode cX12_givesFloor 20 = .ok (.aload_n 0, 1) := by decide +kernel
theorem dX12_givesFloor_21 : decode cX12_givesFloor 21 = .ok (.getfield 74, 3) := by decide +kernel
theorem dX12_givesFloor_24 : decode cX12_givesFloor 24 = .ok (.iload_n 1, 1) := by decide +kernel
theorem dX12_givesFloor_25 : decode cX12_givesFloor 25 = .ok (.aload_n 0, 1) := by decide +kernel
theorem dX12_givesFloor_26 : decode cX12_givesFloor 26 = .ok (.getfield 202, 3) := by decide +kernel
theorem dX12_givesFloor_29 : decode cX12_givesFloor 29 = .ok (.bipush 64, 2) := by decide +kernel
theorem dX12_givesFloor_31 : decode cX12_givesFloor 31 = .ok (.iload_n 1, 1) := by decide +kernel
theorem dX12_givesFloor_32 : decode cX12_givesFloor 32 = .ok (.iadd, 1) := by decide +kernel
theorem dX12_givesFloor_33 : decode cX12_givesFloor 33 = .ok (.iaload, 1) := by decide +kernel
theorem dX12_givesFloor_34 : decode cX12_givesFloor 34 = .ok (.iastore, 1) := by decide +kernel
theorem dX12_givesFloor_35 : decode cX12_givesFloor 35 = .ok (.aload_n 0, 1) := by decide +kernel
theorem dX12_givesFloor_36 : decode cX12_givesFloor 36 = .ok (.getfield 77, 3) := by decide +kernel
theorem dX12_givesFloor_39 : decode cX12_givesFloor 39 = .ok (.iload_n 1, 1) := by decide +kernel
theorem dX12_givesFloor_40 : decode cX12_givesFloor 40 = .ok (.aload_n 0, 1) := by decide +kernel
theorem dX12_givesFloor_41 : decode cX12_givesFloor 41 = .ok (.getfield 202, 3) := by decide +kernel
theorem dX12_givesFloor_44 : decode cX12_givesFloor 44 = .ok (.sipush 128, 3) := by decide +kernel
theorem dX12_givesFloor_47 : decode cX12_givesFloor 47 = .ok (.iload_n 1, 1) := by decide +kernel
theorem dX12_givesFloor_48 : decode cX12_givesFloor 48 = .ok (.iadd, 1) := by decide +kernel
theorem dX12_givesFloor_49 : decode cX12_givesFloor 49 = .ok (.iaload, 1) := by decide +kernel
theorem dX12_givesFloor_50 : decode cX12_givesFloor 50 = .ok (.iastore, 1) := by decide +kernel
theorem dX12_givesFloor_51 : decode cX12_givesFloor 51 = .ok (.aload_n 0, 1) := by decide +kernel
theorem dX12_givesFloor_52 : decode cX12_givesFloor 52 = .ok (.getfield 80, 3) := by decide +kernel
theorem dX12_givesFloor_55 : decode cX12_givesFloor 55 = .ok (.iload_n 1, 1) := by decide +kernel
theorem dX12_givesFloor_56 : decode cX12_givesFloor 56 = .ok (.aload_n 0, 1) := by decide +kernel
theorem dX12_givesFloor_57 : decode cX12_givesFloor 57 = .ok (.getfield 202, 3) := by decide +kernel
theorem dX12_givesFloor_60 : decode cX12_givesFloor 60 = .ok (.sipush 192, 3) := by decide +kernel
theorem dX12_givesFloor_63 : decode cX12_givesFloor 63 = .ok (.iload_n 1, 1) := by decide +kernel
theorem dX12_givesFloor_64 : decode cX12_givesFloor 64 = .ok (.iadd, 1) := by decide +kernel
theorem dX12_givesFloor_65 : decode cX12_givesFloor 65 = .ok (.iaload, 1) := by decide +kernel
theorem dX12_givesFloor_66 : decode cX12_givesFloor 66 = .ok (.iastore, 1) := by decide +kernel
theorem dX12_givesFloor_67 : decode cX12_givesFloor 67 = .ok (.iinc 1 1, 3) := by decide +kernel
theorem dX12_givesFloor_70 : decode cX12_givesFloor 70 = .ok (.goto (-68), 3) := by decide +kernel
theorem dX12_givesFloor_73 : decode cX12_givesFloor 73 = .ok (.return_, 1) := by decide +kernel
abbrev rm_f_X12_givesFloor : Room := { frames := 0, cells := 0, slots := 0, locals := 0 }
def f_X12_givesFloor_L2 (K3 : (St → Option (St))) : Nat → Int → St → Option (St)
  | 0, _, _ => none
  | n9 + 1, x1, t2 =>
    cmpI x1 64 (if x1 < 64 then (ixI x1 256 (lt1 (t2.1 104 x1.toNat) fun v4 =>
    ixI x1 64 (lt1 (pI t2 38 x1.toNat v4) fun t5 =>
    ixI (64 + x1) 256 (lt1 (t5.1 104 (64 + x1).toNat) fun v6 =>
    ixI x1 64 (lt1 (pI t5 39 x1.toNat v6) fun t7 =>
    ixI (128 + x1) 256 (lt1 (t7.1 104 (128 + x1).toNat) fun v8 =>
    ixI x1 64 (lt1 (pI t7 40 x1.toNat v8) fun t9 =>
    ixI (192 + x1) 256 (lt1 (t9.1 104 (192 + x1).toNat) fun v10 =>
    ixI x1 64 (lt1 (pI t9 41 x1.toNat v10) fun t11 =>
    f_X12_givesFloor_L2 K3 n9 (x1 + 1) t11)))))))))
    else (K3 t2))
def f_X12_givesFloor (N : Nat) (t : St) : Option (St) :=
    f_X12_givesFloor_L2 (fun (t12 : St) => some t12) N 0 t
set_option maxHeartbeats 4000000 in
set_option maxRecDepth 100000 in
theorem t_f_X12_givesFloor_L2 {p : Program} {l : Launch} {e : Env} {s : State} {m : MethodId} {args : Array Value} {below : List Frame} {meth : Method} {c : Code} {E : cE} {A : Nat → Prop} {r : Nat → Nat} {mc ms : Nat} {z : St} {K3 : (St → Option (St))} (X : gX p s m meth c cX12_givesFloor 2 none yX12_givesFloor args E A) (hK3 : ∀ (t9 : St), K3 t9 = some z → gP p l e rm_f_X12_givesFloor s m args below meth c E A 2 (MQ below ((gqV E (gW E r shM) z) A) args s mc ms A) (gW E r shM) 73 [] [] t9) : ∀ (n9 : Nat) (x1 : Int) (t2 : St), f_X12_givesFloor_L2 K3 n9 x1 t2 = some z → gP p l e rm_f_X12_givesFloor s m args below meth c E A 2 (MQ below ((gqV E (gW E r shM) z) A) args s mc ms A) (gW E r shM) 2 [(0, .ref (r 200)), (1, iv x1)] [] t2 := by
  intro n9
  induction n9 with
  | zero => intro x1 t2 h; cases h
  | succ n9 ih =>
    intro x1 t2 h
    unfold f_X12_givesFloor_L2 at h
    refine g_iload_n X dX12_givesFloor_2 1 rfl ?_
    refine g_bipush X dX12_givesFloor_3 (by decide) ?_
    refine g_icmp_ge (tgt := 73) X dX12_givesFloor_5 (by decide) h (fun h => ?_) (fun h => ?_)
    · exact g_sub (lv' := []) [] rfl (hK3 t2 h)
    · refine g_aload_n X dX12_givesFloor_8 0 rfl ?_
      refine g_getR X fM_38 rfl dX12_givesFloor_9 ?_
      refine g_iload_n X dX12_givesFloor_12 1 rfl ?_
      refine g_aload_n X dX12_givesFloor_13 0 rfl ?_
      refine g_getR X fM_104 rfl dX12_givesFloor_14 ?_
      refine g_iload_n X dX12_givesFloor_17 1 rfl ?_
      refine g_iald X aM_104 dX12_givesFloor_18 h (fun v4 h => ?_)
      refine g_iast X aM_38 dX12_givesFloor_19 h (fun t5 h => ?_)
      refine g_aload_n X dX12_givesFloor_20 0 rfl ?_
      refine g_getR X fM_39 rfl dX12_givesFloor_21 ?_
      refine g_iload_n X dX12_givesFloor_24 1 rfl ?_
      refine g_aload_n X dX12_givesFloor_25 0 rfl ?_
      refine g_getR X fM_104 rfl dX12_givesFloor_26 ?_
      refine g_bipush X dX12_givesFloor_29 (by decide) ?_
      refine g_iload_n X dX12_givesFloor_31 1 rfl ?_
      refine g_iadd X dX12_givesFloor_32 ?_
      refine g_iald X aM_104 dX12_givesFloor_33 h (fun v6 h => ?_)
      refine g_iast X aM_39 dX12_givesFloor_34 h (fun t7 h => ?_)
      refine g_aload_n X dX12_givesFloor_35 0 rfl ?_
      refine g_getR X fM_40 rfl dX12_givesFloor_36 ?_
      refine g_iload_n X dX12_givesFloor_39 1 rfl ?_
      refine g_aload_n X dX12_givesFloor_40 0 rfl ?_
      refine g_getR X fM_104 rfl dX12_givesFloor_41 ?_
      refine g_sipush X dX12_givesFloor_44 (by decide) ?_
      refine g_iload_n X dX12_givesFloor_47 1 rfl ?_
      refine g_iadd X dX12_givesFloor_48 ?_
      refine g_iald X aM_104 dX12_givesFloor_49 h (fun v8 h => ?_)
      refine g_iast X aM_40 dX12_givesFloor_50 h (fun t9 h => ?_)
      refine g_aload_n X dX12_givesFloor_51 0 rfl ?_
      refine g_getR X fM_41 rfl dX12_givesFloor_52 ?_
      refine g_iload_n X dX12_givesFloor_55 1 rfl ?_
      refine g_aload_n X dX12_givesFloor_56 0 rfl ?_
      refine g_getR X fM_104 rfl dX12_givesFloor_57 ?_
      refine g_sipush X dX12_givesFloor_60 (by decide) ?_
      refine g_iload_n X dX12_givesFloor_63 1 rfl ?_
      refine g_iadd X dX12_givesFloor_64 ?_
      refine g_iald X aM_104 dX12_givesFloor_65 h (fun v10 h => ?_)
      refine g_iast X aM_41 dX12_givesFloor_66 h (fun t11 h => ?_)
      refine g_iinc (lv' := [(1, iv (x1 + 1)), (0, .ref (r 200))]) X dX12_givesFloor_67 (k := 1) rfl (by decide) rfl ?_
      refine g_goto (tgt := 2) X dX12_givesFloor_70 (by decide) ?_
      exact g_sub (lv' := [(0, .ref (r 200)), (1, iv (x1 + 1))]) [1, 0] rfl (ih (x1 + 1) t11 h)
set_option maxHeartbeats 4000000 in
set_option maxRecDepth 100000 in
theorem b_f_X12_givesFloor {p : Program} {l : Launch} {e : Env} {s : State} {m : MethodId} {args : Array Value} {below : List Frame} {meth : Method} {c : Code} {E : cE} {A : Nat → Prop} {r : Nat → Nat} {mc ms : Nat} {z : St} {N : Nat} {t : St} (X : gX p s m meth c cX12_givesFloor 2 none yX12_givesFloor args E A) (h : f_X12_givesFloor N t = some z) : gP p l e rm_f_X12_givesFloor s m args below meth c E A 2 (MQ below ((gqV E (gW E r shM) z) A) args s mc ms A) (gW E r shM) 0 [(0, .ref (r 200))] [] t := by
  unfold f_X12_givesFloor at h
  refine g_iconst X dX12_givesFloor_0 ?_
  refine g_istore_n (lv' := [(1, iv 0), (0, .ref (r 200))]) X dX12_givesFloor_1 rfl (by decide) rfl ?_
  refine g_sub (lv' := [(0, .ref (r 200)), (1, iv 0)]) [1, 0] rfl (t_f_X12_givesFloor_L2 X (fun t12 h => ?_) N 0 t h)
  · exact g_vret X h dX12_givesFloor_73
set_option maxHeartbeats 4000000 in
set_option maxRecDepth 100000 in
theorem cp_X12_givesFloor (l : Launch) (E : cE) (r : Nat → Nat) (N : Nat) (t : St) (z : St) (h : f_X12_givesFloor N t = some z) : cM l E yX12_givesFloor cX12_givesFloor 2 none rm_f_X12_givesFloor [.ref (r 200)] (gW E r shM t) (gqV E (gW E r shM) z) := by
  refine g_of (w := gW E r shM) (by decide) (Nat.le_of_ble_eq_true rfl) ?_
  intro p e s m below meth c A X
  exact g_sub (lv' := [(0, .ref (r 200))]) [0] rfl (b_f_X12_givesFloor X h)
theorem yy_X12_givesFloor : cY yX12_givesFloor cX12_givesFloor 2 none 0 := ⟨wdK_X12_givesFloor, wdZ_RX12, by decide +kernel⟩
theorem yi_X12_givesFloor : cYi yX12_givesFloor := ⟨wdN_X12_givesFloor, wdS_X12_givesFloor⟩
theorem dX12_packed_0 : decode cX12_packed 0 = .ok (.aload_n 0, 1) := by decide +kernel
theorem dX12_packed_1 : decode cX12_packed 1 = .ok (.getfield 71, 3) := by decide +kernel
theorem dX12_packed_4 : decode cX12_packed 4 = .ok (.iload_n 1, 1) := by decide +kernel
theorem dX12_packed_5 : decode cX12_packed 5 = .ok (.iaload, 1) := by decide +kernel
theorem dX12_packed_6 : decode cX12_packed 6 = .ok (.aload_n 0, 1) := by decide +kernel
theorem dX12_packed_7 : decode cX12_packed 7 = .ok (.getfield 74, 3) := by decide +kernel
theorem dX12_packed_10 : decode cX12_packed 10 = .ok (.iload_n 1, 1) := by decide +kernel
theorem dX12_packed_11 : decode cX12_packed 11 = .ok (.iaload, 1) := by decide +kernel
theorem dX12_packed_12 : decode cX12_packed 12 = .ok (.bipush 8, 2) := by decide +kernel
theorem dX12_packed_14 : decode cX12_packed 14 = .ok (.ishl, 1) := by decide +kernel
theorem dX12_packed_15 : decode cX12_packed 15 = .ok (.ior, 1) := by decide +kernel
theorem dX12_packed_16 : decode cX12_packed 16 = .ok (.aload_n 0, 1) := by decide +kernel
theorem dX12_packed_17 : decode cX12_packed 17 = .ok (.getfield 77, 3) := by decide +kernel
theorem dX12_packed_20 : decode cX12_packed 20 = .ok (.iload_n 1, 1) := by decide +kernel
theorem dX12_packed_21 : decode cX12_packed 21 = .ok (.iaload, 1) := by decide +kernel
theorem dX12_packed_22 : decode cX12_packed 22 = .ok (.bipush 16, 2) := by decide +kernel
theorem dX12_packed_24 : decode cX12_packed 24 = .ok (.ishl, 1) := by decide +kernel
theorem dX12_packed_25 : decode cX12_packed 25 = .ok (.ior, 1) := by decide +kernel
theorem dX12_packed_26 : decode cX12_packed 26 = .ok (.ireturn, 1) := by decide +kernel
abbrev rm_f_X12_packed : Room := { frames := 0, cells := 0, slots := 0, locals := 0 }
def f_X12_packed (N : Nat) (a0 : Int) (t : St) : Option (Int × St) :=
    ixI a0 64 (lt1 (t.1 38 a0.toNat) fun v1 =>
    ixI a0 64 (lt1 (t.1 39 a0.toNat) fun v2 =>
    ixI a0 64 (lt1 (t.1 40 a0.toNat) fun v3 =>
    some (iorZ (iorZ v1 (v2 * 256)) (v3 * 65536), t))))
set_option maxHeartbeats 4000000 in
set_option maxRecDepth 100000 in
theorem b_f_X12_packed {p : Program} {l : Launch} {e : Env} {s : State} {m : MethodId} {args : Array Value} {below : List Frame} {meth : Method} {c : Code} {E : cE} {A : Nat → Prop} {r : Nat → Nat} {mc ms : Nat} {z : Int × St} {N : Nat} {a0 : Int} {t : St} (X : gX p s m meth c cX12_packed 2 (some .int) yX12_packed args E A) (h : f_X12_packed N a0 t = some z) : gP p l e rm_f_X12_packed s m args below meth c E A 2 (MQ below ((gqI E (gW E r shM) z) A) args s mc ms A) (gW E r shM) 0 [(0, .ref (r 200)), (1, iv a0)] [] t := by
  unfold f_X12_packed at h
  refine g_aload_n X dX12_packed_0 0 rfl ?_
  refine g_getR X fM_38 rfl dX12_packed_1 ?_
  refine g_iload_n X dX12_packed_4 1 rfl ?_
  refine g_iald X aM_38 dX12_packed_5 h (fun v1 h => ?_)
  refine g_aload_n X dX12_packed_6 0 rfl ?_
  refine g_getR X fM_39 rfl dX12_packed_7 ?_
  refine g_iload_n X dX12_packed_10 1 rfl ?_
  refine g_iald X aM_39 dX12_packed_11 h (fun v2 h => ?_)
  refine g_bipush X dX12_packed_12 (by decide) ?_
  refine g_shl X 8 (by decide) (M := 256) (by decide) (by decide) dX12_packed_14 ?_
  refine g_ior X dX12_packed_15 ?_
  refine g_aload_n X dX12_packed_16 0 rfl ?_
  refine g_getR X fM_40 rfl dX12_packed_17 ?_
  refine g_iload_n X dX12_packed_20 1 rfl ?_
  refine g_iald X aM_40 dX12_packed_21 h (fun v3 h => ?_)
  refine g_bipush X dX12_packed_22 (by decide) ?_
  refine g_shl X 16 (by decide) (M := 65536) (by decide) (by decide) dX12_packed_24 ?_
  refine g_ior X dX12_packed_25 ?_
  exact g_iret X h dX12_packed_26
set_option maxHeartbeats 4000000 in
set_option maxRecDepth 100000 in
theorem cp_X12_packed (l : Launch) (E : cE) (r : Nat → Nat) (N : Nat) (a0 : Int) (t : St) (z : Int × St) (h : f_X12_packed N a0 t = some z) : cM l E yX12_packed cX12_packed 2 (some .int) rm_f_X12_packed [.ref (r 200), iv a0] (gW E r shM t) (gqI E (gW E r shM) z) := by
  refine g_of (w := gW E r shM) (by decide) (Nat.le_of_ble_eq_true rfl) ?_
  intro p e s m below meth c A X
  exact g_sub (lv' := [(0, .ref (r 200)), (1, iv a0)]) [0, 1] rfl (b_f_X12_packed X h)
theorem yy_X12_packed : cY yX12_packed cX12_packed 2 (some .int) 1 := ⟨wdK_X12_packed, wdZ_RX12, by decide +kernel⟩
theorem yi_X12_packed : cYi yX12_packed := ⟨wdN_X12_packed, wdS_X12_packed⟩
theorem dX12_showsState_0 : decode cX12_showsState 0 = .ok (.iconst 0, 1) := by decide +kernel
theorem dX12_showsState_1 : decode cX12_showsState 1 = .ok (.istore_n 2, 1) := by decide +kernel
theorem dX12_showsState_2 : decode cX12_showsState 2 = .ok (.iload_n 2, 1) := by decide +kernel
theorem dX12_showsState_3 : decode cX12_showsState 3 = .ok (.aload_n 0, 1) := by decide +kernel
theorem dX12_showsState_4 : decode cX12_showsState 4 = .ok (.getfield 231, 3) := by decide +kernel
theorem dX12_showsState_7 : decode cX12_showsState 7 = .ok (.if_icmp .ge 56, 3) := by decide +kernel
theorem dX12_showsState_10 : decode cX12_showsState 10 = .ok (.aload_n 0, 1) := by decide +kernel
theorem dX12_showsState_11 : decode cX12_showsState 11 = .ok (.getfield 174, 3) := by decide +kernel
theorem dX12_showsState_14 : decode cX12_showsState 14 = .ok (.bipush 16, 2) := by decide +kernel
theorem dX12_showsState_16 : decode cX12_showsState 16 = .ok (.iload_n 1, 1) := by decide +kernel
theorem dX12_showsState_17 : decode cX12_showsState 17 = .ok (.imul, 1) := by decide +kernel
theorem dX12_showsState_18 : decode cX12_showsState 18 = .ok (.iload_n 2, 1) := by decide +kernel
theorem dX12_showsState_19 : decode cX12_showsState 19 = .ok (.iadd, 1) := by decide +kernel
theorem dX12_showsState_20 : decode cX12_showsState 20 = .ok (.iaload, 1) := by decide +kernel
theorem dX12_showsState_21 : decode cX12_showsState 21 = .ok (.istore_n 3, 1) := by decide +kernel
theorem dX12_showsState_22 : decode cX12_showsState 22 = .ok (.aload_n 0, 1) := by decide +kernel
theorem dX12_showsState_23 : decode cX12_showsState 23 = .ok (.getfield 71, 3) := by decide +kernel
theorem dX12_showsState_26 : decode cX12_showsState 26 = .ok (.iload_n 2, 1) := by decide +kernel
theorem dX12_showsState_27 : decode cX12_showsState 27 = .ok (.iload_n 3, 1) := by decide +kernel
theorem dX12_showsState_28 : decode cX12_showsState 28 = .ok (.sipush 255, 3) := by decide +kernel
theorem dX12_showsState_31 : decode cX12_showsState 31 = .ok (.iand, 1) := by decide +kernel
theorem dX12_showsState_32 : decode cX12_showsState 32 = .ok (.iastore, 1) := by decide +kernel
theorem dX12_showsState_33 : decode cX12_showsState 33 = .ok (.aload_n 0, 1) := by decide +kernel
theorem dX12_showsState_34 : decode cX12_showsState 34 = .ok (.getfield 74, 3) := by decide +kernel
theorem dX12_showsState_37 : decode cX12_showsState 37 = .ok (.iload_n 2, 1) := by decide +kernel
theorem dX12_showsState_38 : decode cX12_showsState 38 = .ok (.iload_n 3, 1) := by decide +kernel
theorem dX12_showsState_39 : decode cX12_showsState 39 = .ok (.bipush 8, 2) := by decide +kernel
theorem dX12_showsState_41 : decode cX12_showsState 41 = .ok (.ishr, 1) := by decide +kernel
theorem dX12_showsState_42 : decode cX12_showsState 42 = .ok (.sipush 255, 3) := by decide +kernel
theorem dX12_showsState_45 : decode cX12_showsState 45 = .ok (.iand, 1) := by decide +kernel
theorem dX12_showsState_46 : decode cX12_showsState 46 = .ok (.iastore, 1) := by decide +kernel
theorem dX12_showsState_47 : decode cX12_showsState 47 = .ok (.aload_n 0, 1) := by decide +kernel
theorem dX12_showsState_48 : decode cX12_showsState 48 = .ok (.getfield 77, 3) := by decide +kernel
theorem dX12_showsState_51 : decode cX12_showsState 51 = .ok (.iload_n 2, 1) := by decide +kernel
theorem dX12_showsState_52 : decode cX12_showsState 52 = .ok (.iload_n 3, 1) := by decide +kernel
theorem dX12_showsState_53 : decode cX12_showsState 53 = .ok (.bipush 16, 2) := by decide +kernel
theorem dX12_showsState_55 : decode cX12_showsState 55 = .ok (.ishr, 1) := by decide +kernel
theorem dX12_showsState_56 : decode cX12_showsState 56 = .ok (.iastore, 1) := by decide +kernel
theorem dX12_showsState_57 : decode cX12_showsState 57 = .ok (.iinc 2 1, 3) := by decide +kernel
theorem dX12_showsState_60 : decode cX12_showsState 60 = .ok (.goto (-58), 3) := by decide +kernel
theorem dX12_showsState_63 : decode cX12_showsState 63 = .ok (.return_, 1) := by decide +kernel
abbrev rm_f_X12_showsState : Room := { frames := 0, cells := 0, slots := 0, locals := 0 }
def f_X12_showsState_L2 (K4 : (St → Option (St))) (y1 : Int) : Nat → Int → St → Option (St)
  | 0, _, _ => none
  | n9 + 1, x2, t3 =>
    lt1 (t3.1 200 37) fun v5 =>
    cmpI x2 v5 (if x2 < v5 then (ixI ((16 * y1) + x2) 32000 (lt1 (t3.1 92 ((16 * y1) + x2).toNat) fun v6 =>
    ixI x2 64 (lt1 (pI t3 38 x2.toNat (v6 % 256)) fun t7 =>
    rnI v6 (
    ixI x2 64 (lt1 (pI t7 39 x2.toNat ((v6 / 256) % 256)) fun t8 =>
    rnI v6 (
    ixI x2 64 (lt1 (pI t8 40 x2.toNat (v6 / 65536)) fun t9 =>
    f_X12_showsState_L2 K4 y1 n9 (x2 + 1) t9)))))))
    else (K4 t3))
def f_X12_showsState (N : Nat) (a0 : Int) (t : St) : Option (St) :=
    f_X12_showsState_L2 (fun (t10 : St) => some t10) a0 N 0 t
set_option maxHeartbeats 4000000 in
set_option maxRecDepth 100000 in
theorem t_f_X12_showsState_L2 {p : Program} {l : Launch} {e : Env} {s : State} {m : MethodId} {args : Array Value} {below : List Frame} {meth : Method} {c : Code} {E : cE} {A : Nat → Prop} {r : Nat → Nat} {mc ms : Nat} {z : St} {K4 : (St → Option (St))} {y1 : Int} (X : gX p s m meth c cX12_showsState 4 none yX12_showsState args E A) (hK4 : ∀ (t9 : St), K4 t9 = some z → gP p l e rm_f_X12_showsState s m args below meth c E A 4 (MQ below ((gqV E (gW E r shM) z) A) args s mc ms A) (gW E r shM) 63 [] [] t9) : ∀ (n9 : Nat) (x2 : Int) (t3 : St), f_X12_showsState_L2 K4 y1 n9 x2 t3 = some z → gP p l e rm_f_X12_showsState s m args below meth c E A 4 (MQ below ((gqV E (gW E r shM) z) A) args s mc ms A) (gW E r shM) 2 [(0, .ref (r 200)), (1, iv y1), (2, iv x2)] [] t3 := by
  intro n9
  induction n9 with
  | zero => intro x2 t3 h; cases h
  | succ n9 ih =>
    intro x2 t3 h
    unfold f_X12_showsState_L2 at h
    refine g_iload_n X dX12_showsState_2 2 rfl ?_
    refine g_aload_n X dX12_showsState_3 0 rfl ?_
    refine g_getI X fM_37 rfl dX12_showsState_4 h (fun v5 h => ?_)
    refine g_icmp_ge (tgt := 63) X dX12_showsState_7 (by decide) h (fun h => ?_) (fun h => ?_)
    · exact g_sub (lv' := []) [] rfl (hK4 t3 h)
    · refine g_aload_n X dX12_showsState_10 0 rfl ?_
      refine g_getR X fM_92 rfl dX12_showsState_11 ?_
      refine g_bipush X dX12_showsState_14 (by decide) ?_
      refine g_iload_n X dX12_showsState_16 1 rfl ?_
      refine g_imul X dX12_showsState_17 ?_
      refine g_iload_n X dX12_showsState_18 2 rfl ?_
      refine g_iadd X dX12_showsState_19 ?_
      refine g_iald X aM_92 dX12_showsState_20 h (fun v6 h => ?_)
      refine g_istore_n (lv' := [(3, iv v6), (0, .ref (r 200)), (1, iv y1), (2, iv x2)]) X dX12_showsState_21 rfl (by decide) rfl ?_
      refine g_aload_n X dX12_showsState_22 1 rfl ?_
      refine g_getR X fM_38 rfl dX12_showsState_23 ?_
      refine g_iload_n X dX12_showsState_26 3 rfl ?_
      refine g_iload_n X dX12_showsState_27 0 rfl ?_
      refine g_sipush X dX12_showsState_28 (by decide) ?_
      refine g_mask X 8 (by decide) (M := 256) (by decide) (by decide) dX12_showsState_31 ?_
      refine g_iast X aM_38 dX12_showsState_32 h (fun t7 h => ?_)
      refine g_aload_n X dX12_showsState_33 1 rfl ?_
      refine g_getR X fM_39 rfl dX12_showsState_34 ?_
      refine g_iload_n X dX12_showsState_37 3 rfl ?_
      refine g_iload_n X dX12_showsState_38 0 rfl ?_
      refine g_bipush X dX12_showsState_39 (by decide) ?_
      refine g_shr X 8 (by decide) (M := 256) (by decide) (by decide) dX12_showsState_41 h (fun h => ?_)
      refine g_sipush X dX12_showsState_42 (by decide) ?_
      refine g_mask X 8 (by decide) (M := 256) (by decide) (by decide) dX12_showsState_45 ?_
      refine g_iast X aM_39 dX12_showsState_46 h (fun t8 h => ?_)
      refine g_aload_n X dX12_showsState_47 1 rfl ?_
      refine g_getR X fM_40 rfl dX12_showsState_48 ?_
      refine g_iload_n X dX12_showsState_51 3 rfl ?_
      refine g_iload_n X dX12_showsState_52 0 rfl ?_
      refine g_bipush X dX12_showsState_53 (by decide) ?_
      refine g_shr X 16 (by decide) (M := 65536) (by decide) (by decide) dX12_showsState_55 h (fun h => ?_)
      refine g_iast X aM_40 dX12_showsState_56 h (fun t9 h => ?_)
      refine g_iinc (lv' := [(2, iv (x2 + 1)), (3, iv v6), (0, .ref (r 200)), (1, iv y1)]) X dX12_showsState_57 (k := 3) rfl (by decide) rfl ?_
      refine g_goto (tgt := 2) X dX12_showsState_60 (by decide) ?_
      exact g_sub (lv' := [(0, .ref (r 200)), (1, iv y1), (2, iv (x2 + 1))]) [2, 3, 0] rfl (ih (x2 + 1) t9 h)
set_option maxHeartbeats 4000000 in
set_option maxRecDepth 100000 in
theorem b_f_X12_showsState {p : Program} {l : Launch} {e : Env} {s : State} {m : MethodId} {args : Array Value} {below : List Frame} {meth : Method} {c : Code} {E : cE} {A : Nat → Prop} {r : Nat → Nat} {mc ms : Nat} {z : St} {N : Nat} {a0 : Int} {t : St} (X : gX p s m meth c cX12_showsState 4 none yX12_showsState args E A) (h : f_X12_showsState N a0 t = some z) : gP p l e rm_f_X12_showsState s m args below meth c E A 4 (MQ below ((gqV E (gW E r shM) z) A) args s mc ms A) (gW E r shM) 0 [(0, .ref (r 200)), (1, iv a0)] [] t := by
  unfold f_X12_showsState at h
  refine g_iconst X dX12_showsState_0 ?_
  refine g_istore_n (lv' := [(2, iv 0), (0, .ref (r 200)), (1, iv a0)]) X dX12_showsState_1 rfl (by decide) rfl ?_
  refine g_sub (lv' := [(0, .ref (r 200)), (1, iv a0), (2, iv 0)]) [1, 2, 0] rfl (t_f_X12_showsState_L2 X (fun t10 h => ?_) N 0 t h)
  · exact g_vret X h dX12_showsState_63
set_option maxHeartbeats 4000000 in
set_option maxRecDepth 100000 in
theorem cp_X12_showsState (l : Launch) (E : cE) (r : Nat → Nat) (N : Nat) (a0 : Int) (t : St) (z : St) (h : f_X12_showsState N a0 t = some z) : cM l E yX12_showsState cX12_showsState 4 none rm_f_X12_showsState [.ref (r 200), iv a0] (gW E r shM t) (gqV E (gW E r shM) z) := by
  refine g_of (w := gW E r shM) (by decide) (Nat.le_of_ble_eq_true rfl) ?_
  intro p e s m below meth c A X
  exact g_sub (lv' := [(0, .ref (r 200)), (1, iv a0)]) [0, 1] rfl (b_f_X12_showsState X h)
theorem yy_X12_showsState : cY yX12_showsState cX12_showsState 4 none 1 := ⟨wdK_X12_showsState, wdZ_RX12, by decide +kernel⟩
theorem yi_X12_showsState : cYi yX12_showsState := ⟨wdN_X12_showsState, wdS_X12_showsState⟩
theorem dX12_stateAtHand_0 : decode cX12_stateAtHand 0 = .ok (.iconst 0, 1) := by decide +kernel
theorem dX12_stateAtHand_1 : decode cX12_stateAtHand 1 = .ok (.istore_n 1, 1) := by decide +kernel
theorem dX12_stateAtHand_2 : decode cX12_stateAtHand 2 = .ok (.iload_n 1, 1) := by decide +kernel
theorem dX12_stateAtHand_3 : decode cX12_stateAtHand 3 = .ok (.aload_n 0, 1) := by decide +kernel
theorem dX12_stateAtHand_4 : decode cX12_stateAtHand 4 = .ok (.getfield 623, 3) := by decide +kernel
theorem dX12_stateAtHand_7 : decode cX12_stateAtHand 7 = .ok (.if_icmp .ge 62, 3) := by decide +kernel
theorem dX12_stateAtHand_10 : decode cX12_stateAtHand 10 = .ok (.iconst 1, 1) := by decide +kernel
theorem dX12_stateAtHand_11 : decode cX12_stateAtHand 11 = .ok (.istore_n 2, 1) := by decide +kernel
theorem dX12_stateAtHand_12 : decode cX12_stateAtHand 12 = .ok (.iconst 0, 1) := by decide +kernel
theorem dX12_stateAtHand_13 : decode cX12_stateAtHand 13 = .ok (.istore_n 3, 1) := by decide +kernel
theorem dX12_stateAtHand_14 : decode cX12_stateAtHand 14 = .ok (.iload_n 3, 1) := by decide +kernel
theorem dX12_stateAtHand_15 : decode cX12_stateAtHand 15 = .ok (.aload_n 0, 1) := by decide +kernel
theorem dX12_stateAtHand_16 : decode cX12_stateAtHand 16 = .ok (.getfield 231, 3) := by decide +kernel
theorem dX12_stateAtHand_19 : decode cX12_stateAtHand 19 = .ok (.if_icmp .ge 38, 3) := by decide +kernel
theorem dX12_stateAtHand_22 : decode cX12_stateAtHand 22 = .ok (.iload_n 2, 1) := by decide +kernel
theorem dX12_stateAtHand_23 : decode cX12_stateAtHand 23 = .ok (.ifCond .eq 34, 3) := by decide +kernel
theorem dX12_stateAtHand_26 : decode cX12_stateAtHand 26 = .ok (.aload_n 0, 1) := by decide +kernel
theorem dX12_stateAtHand_27 : decode cX12_stateAtHand 27 = .ok (.getfield 174, 3) := by decide +kernel
theorem dX12_stateAtHand_30 : decode cX12_stateAtHand 30 = .ok (.bipush 16, 2) := by decide +kernel
theorem dX12_stateAtHand_32 : decode cX12_stateAtHand 32 = .ok (.iload_n 1, 1) := by decide +kernel
theorem dX12_stateAtHand_33 : decode cX12_stateAtHand 33 = .ok (.imul, 1) := by decide +kernel
theorem dX12_stateAtHand_34 : decode cX12_stateAtHand 34 = .ok (.iload_n 3, 1) := by decide +kernel
theorem dX12_stateAtHand_35 : decode cX12_stateAtHand 35 = .ok (.iadd, 1) := by decide +kernel
theorem dX12_stateAtHand_36 : decode cX12_stateAtHand 36 = .ok (.iaload, 1) := by decide +kernel
theorem dX12_stateAtHand_37 : decode cX12_stateAtHand 37 = .ok (.aload_n 0, 1) := by decide +kernel
theorem dX12_stateAtHand_38 : decode cX12_stateAtHand 38 = .ok (.iload_n 3, 1) := by decide +kernel
theorem dX12_stateAtHand_39 : decode cX12_stateAtHand 39 = .ok (.invokevirtual 626, 3) := by decide +kernel
theorem dX12_stateAtHand_42 : decode cX12_stateAtHand 42 = .ok (.if_icmp .ne 7, 3) := by decide +kernel
theorem dX12_stateAtHand_45 : decode cX12_stateAtHand 45 = .ok (.iconst 1, 1) := by decide +kernel
theorem dX12_stateAtHand_46 : decode cX12_stateAtHand 46 = .ok (.goto 4, 3) := by decide +kernel
theorem dX12_stateAtHand_49 : decode cX12_stateAtHand 49 = .ok (.iconst 0, 1) := by decide +kernel
theorem dX12_stateAtHand_50 : decode cX12_stateAtHand 50 = .ok (.istore_n 2, 1) := by decide +kernel
theorem dX12_stateAtHand_51 : decode cX12_stateAtHand 51 = .ok (.iinc 3 1, 3) := by decide +kernel
theorem dX12_stateAtHand_54 : decode cX12_stateAtHand 54 = .ok (.goto (-40), 3) := by decide +kernel
theorem dX12_stateAtHand_57 : decode cX12_stateAtHand 57 = .ok (.iload_n 2, 1) := by decide +kernel
theorem dX12_stateAtHand_58 : decode cX12_stateAtHand 58 = .ok (.ifCond .eq 5, 3) := by decide +kernel
theorem dX12_stateAtHand_61 : decode cX12_stateAtHand 61 = .ok (.iload_n 1, 1) := by decide +kernel
theorem dX12_stateAtHand_62 : decode cX12_stateAtHand 62 = .ok (.ireturn, 1) := by decide +kernel
theorem dX12_stateAtHand_63 : decode cX12_stateAtHand 63 = .ok (.iinc 1 1, 3) := by decide +kernel
theorem dX12_stateAtHand_66 : decode cX12_stateAtHand 66 = .ok (.goto (-64), 3) := by decide +kernel
theorem dX12_stateAtHand_69 : decode cX12_stateAtHand 69 = .ok (.iconst (-1), 1) := by decide +kernel
theorem dX12_stateAtHand_70 : decode cX12_stateAtHand 70 = .ok (.ireturn, 1) := by decide +kernel
abbrev rm_f_X12_stateAtHand : Room := { frames := 1, cells := 0, slots := 0, locals := 21 }
def f_X12_stateAtHand_L14 (N : Nat) (K9 : (Int → St → Option (Int × St))) (y5 : Int) : Nat → Int → Int → St → Option (Int × St)
  | 0, _, _, _ => none
  | n9 + 1, x6, x7, t8 =>
    lt1 (t8.1 200 37) fun v10 =>
    cmpI x7 v10 (if x7 < v10 then (cmpI x6 0 (if x6 = 0 then (K9 x6 t8)
    else (ixI ((16 * y5) + x7) 32000 (lt1 (t8.1 92 ((16 * y5) + x7).toNat) fun v11 =>
    bdI (f_X12_packed N x7 t8) fun v13 t12 =>
    jn1 (fun (j14 : Int) (t15 : St) => f_X12_stateAtHand_L14 N K9 y5 n9 j14 (x7 + 1) t15) fun J16 =>
    cmpI v11 v13 (if v11 = v13 then (J16 1 t12)
    else (J16 0 t12))))))
    else (K9 x6 t8))
def f_X12_stateAtHand_L2 (N : Nat) (K3 : (St → Option (Int × St))) : Nat → Int → St → Option (Int × St)
  | 0, _, _ => none
  | n9 + 1, x1, t2 =>
    lt1 (t2.1 200 90) fun v4 =>
    cmpI x1 v4 (if x1 < v4 then (f_X12_stateAtHand_L14 N (fun (k17 : Int) (t18 : St) => cmpI k17 0 (if k17 = 0 then (f_X12_stateAtHand_L2 N K3 n9 (x1 + 1) t18)
    else (some (x1, t18)))) x1 N 1 0 t2)
    else (K3 t2))
def f_X12_stateAtHand (N : Nat) (t : St) : Option (Int × St) :=
    f_X12_stateAtHand_L2 N (fun (t19 : St) => some ((-1), t19)) N 0 t
set_option maxHeartbeats 4000000 in
set_option maxRecDepth 100000 in
theorem t_f_X12_stateAtHand_L14 {p : Program} {l : Launch} {e : Env} {s : State} {m : MethodId} {args : Array Value} {below : List Frame} {meth : Method} {c : Code} {E : cE} {A : Nat → Prop} {r : Nat → Nat} {mc ms : Nat} {z : Int × St} {N : Nat} {K9 : (Int → St → Option (Int × St))} {y5 : Int} (X : gX p s m meth c cX12_stateAtHand 4 (some .int) yX12_stateAtHand args E A) (hK9 : ∀ (q2 : Int) (t9 : St), K9 q2 t9 = some z → gP p l e rm_f_X12_stateAtHand s m args below meth c E A 4 (MQ below ((gqI E (gW E r shM) z) A) args s mc ms A) (gW E r shM) 57 [(0, .ref (r 200)), (1, iv y5), (2, iv q2)] [] t9) : ∀ (n9 : Nat) (x6 : Int) (x7 : Int) (t8 : St), f_X12_stateAtHand_L14 N K9 y5 n9 x6 x7 t8 = some z → gP p l e rm_f_X12_stateAtHand s m args below meth c E A 4 (MQ below ((gqI E (gW E r shM) z) A) args s mc ms A) (gW E r shM) 14 [(0, .ref (r 200)), (1, iv y5), (2, iv x6), (3, iv x7)] [] t8 := by
  intro n9
  induction n9 with
  | zero => intro x6 x7 t8 h; cases h
  | succ n9 ih =>
    intro x6 x7 t8 h
    unfold f_X12_stateAtHand_L14 at h
    refine g_iload_n X dX12_stateAtHand_14 3 rfl ?_
    refine g_aload_n X dX12_stateAtHand_15 0 rfl ?_
    refine g_getI X fM_37 rfl dX12_stateAtHand_16 h (fun v10 h => ?_)
    refine g_icmp_ge (tgt := 57) X dX12_stateAtHand_19 (by decide) h (fun h => ?_) (fun h => ?_)
    · exact g_sub (lv' := [(0, .ref (r 200)), (1, iv y5), (2, iv x6)]) [0, 1, 2] rfl (hK9 x6 t8 h)
    · refine g_iload_n X dX12_stateAtHand_22 2 rfl ?_
      refine g_if_eq (tgt := 57) X dX12_stateAtHand_23 (by decide) h (fun h => ?_) (fun h => ?_)
      · exact g_sub (lv' := [(0, .ref (r 200)), (1, iv y5), (2, iv x6)]) [0, 1, 2] rfl (hK9 x6 t8 h)
      · refine g_aload_n X dX12_stateAtHand_26 0 rfl ?_
        refine g_getR X fM_92 rfl dX12_stateAtHand_27 ?_
        refine g_bipush X dX12_stateAtHand_30 (by decide) ?_
        refine g_iload_n X dX12_stateAtHand_32 1 rfl ?_
        refine g_imul X dX12_stateAtHand_33 ?_
        refine g_iload_n X dX12_stateAtHand_34 3 rfl ?_
        refine g_iadd X dX12_stateAtHand_35 ?_
        refine g_iald X aM_92 dX12_stateAtHand_36 h (fun v11 h => ?_)
        refine g_aload_n X dX12_stateAtHand_37 0 rfl ?_
        refine g_iload_n X dX12_stateAtHand_38 3 rfl ?_
        refine g_callI (rest := [iv v11]) X (fun u9 h9 => cp_X12_packed l E r N x7 t8 u9 h9) yy_X12_packed yi_X12_packed wdM_RX12_626 0 12 (gW_at oM) rfl rfl rfl (Nat.le_of_ble_eq_true rfl) dX12_stateAtHand_39 ⟨by decide, by decide⟩ ⟨rfl, rfl⟩ h (fun v13 t12 h => ?_)
        refine g_join (J := fun jj => ∀ (j14 : Int) (t15 : St), jj j14 t15 = some z → gP p l e rm_f_X12_stateAtHand s m args below meth c E A 4 (MQ below ((gqI E (gW E r shM) z) A) args s mc ms A) (gW E r shM) 50 [(0, .ref (r 200)), (1, iv y5), (3, iv x7)] [iv j14] t15) h (fun j14 t15 h => ?_) (fun J16 hJ16 h => ?_)
        · refine g_istore_n (lv' := [(2, iv j14), (0, .ref (r 200)), (1, iv y5), (3, iv x7)]) X dX12_stateAtHand_50 rfl (by decide) rfl ?_
          refine g_iinc (lv' := [(3, iv (x7 + 1)), (2, iv j14), (0, .ref (r 200)), (1, iv y5)]) X dX12_stateAtHand_51 (k := 3) rfl (by decide) rfl ?_
          refine g_goto (tgt := 14) X dX12_stateAtHand_54 (by decide) ?_
          exact g_sub (lv' := [(0, .ref (r 200)), (1, iv y5), (2, iv j14), (3, iv (x7 + 1))]) [2, 3, 1, 0] rfl (ih j14 (x7 + 1) t15 h)
        refine g_icmp_ne (tgt := 49) X dX12_stateAtHand_42 (by decide) h (fun h => ?_) (fun h => ?_)
        · refine g_iconst X dX12_stateAtHand_49 ?_
          exact g_sub (lv' := [(0, .ref (r 200)), (1, iv y5), (3, iv x7)]) [0, 1, 3] rfl (hJ16 0 t12 h)
        · refine g_iconst X dX12_stateAtHand_45 ?_
          refine g_goto (tgt := 50) X dX12_stateAtHand_46 (by decide) ?_
          exact g_sub (lv' := [(0, .ref (r 200)), (1, iv y5), (3, iv x7)]) [0, 1, 3] rfl (hJ16 1 t12 h)
set_option maxHeartbeats 4000000 in
set_option maxRecDepth 100000 in
theorem t_f_X12_stateAtHand_L2 {p : Program} {l : Launch} {e : Env} {s : State} {m : MethodId} {args : Array Value} {below : List Frame} {meth : Method} {c : Code} {E : cE} {A : Nat → Prop} {r : Nat → Nat} {mc ms : Nat} {z : Int × St} {N : Nat} {K3 : (St → Option (Int × St))} (X : gX p s m meth c cX12_stateAtHand 4 (some .int) yX12_stateAtHand args E A) (hK3 : ∀ (t9 : St), K3 t9 = some z → gP p l e rm_f_X12_stateAtHand s m args below meth c E A 4 (MQ below ((gqI E (gW E r shM) z) A) args s mc ms A) (gW E r shM) 69 [] [] t9) : ∀ (n9 : Nat) (x1 : Int) (t2 : St), f_X12_stateAtHand_L2 N K3 n9 x1 t2 = some z → gP p l e rm_f_X12_stateAtHand s m args below meth c E A 4 (MQ below ((gqI E (gW E r shM) z) A) args s mc ms A) (gW E r shM) 2 [(0, .ref (r 200)), (1, iv x1)] [] t2 := by
  intro n9
  induction n9 with
  | zero => intro x1 t2 h; cases h
  | succ n9 ih =>
    intro x1 t2 h
    unfold f_X12_stateAtHand_L2 at h
    refine g_iload_n X dX12_stateAtHand_2 1 rfl ?_
    refine g_aload_n X dX12_stateAtHand_3 0 rfl ?_
    refine g_getI X fM_90 rfl dX12_stateAtHand_4 h (fun v4 h => ?_)
    refine g_icmp_ge (tgt := 69) X dX12_stateAtHand_7 (by decide) h (fun h => ?_) (fun h => ?_)
    · exact g_sub (lv' := []) [] rfl (hK3 t2 h)
    · refine g_iconst X dX12_stateAtHand_10 ?_
      refine g_istore_n (lv' := [(2, iv 1), (0, .ref (r 200)), (1, iv x1)]) X dX12_stateAtHand_11 rfl (by decide) rfl ?_
      refine g_iconst X dX12_stateAtHand_12 ?_
      refine g_istore_n (lv' := [(3, iv 0), (2, iv 1), (0, .ref (r 200)), (1, iv x1)]) X dX12_stateAtHand_13 rfl (by decide) rfl ?_
      refine g_sub (lv' := [(0, .ref (r 200)), (1, iv x1), (2, iv 1), (3, iv 0)]) [2, 3, 1, 0] rfl (t_f_X12_stateAtHand_L14 X (fun k17 t18 h => ?_) N 1 0 t2 h)
      · refine g_iload_n X dX12_stateAtHand_57 2 rfl ?_
        refine g_if_eq (tgt := 63) X dX12_stateAtHand_58 (by decide) h (fun h => ?_) (fun h => ?_)
        · refine g_iinc (lv' := [(1, iv (x1 + 1)), (0, .ref (r 200)), (2, iv k17)]) X dX12_stateAtHand_63 (k := 1) rfl (by decide) rfl ?_
          refine g_goto (tgt := 2) X dX12_stateAtHand_66 (by decide) ?_
          exact g_sub (lv' := [(0, .ref (r 200)), (1, iv (x1 + 1))]) [1, 0] rfl (ih (x1 + 1) t18 h)
        · refine g_iload_n X dX12_stateAtHand_61 1 rfl ?_
          exact g_iret X h dX12_stateAtHand_62
set_option maxHeartbeats 4000000 in
set_option maxRecDepth 100000 in
theorem b_f_X12_stateAtHand {p : Program} {l : Launch} {e : Env} {s : State} {m : MethodId} {args : Array Value} {below : List Frame} {meth : Method} {c : Code} {E : cE} {A : Nat → Prop} {r : Nat → Nat} {mc ms : Nat} {z : Int × St} {N : Nat} {t : St} (X : gX p s m meth c cX12_stateAtHand 4 (some .int) yX12_stateAtHand args E A) (h : f_X12_stateAtHand N t = some z) : gP p l e rm_f_X12_stateAtHand s m args below meth c E A 4 (MQ below ((gqI E (gW E r shM) z) A) args s mc ms A) (gW E r shM) 0 [(0, .ref (r 200))] [] t := by
  unfold f_X12_stateAtHand at h
  refine g_iconst X dX12_stateAtHand_0 ?_
  refine g_istore_n (lv' := [(1, iv 0), (0, .ref (r 200))]) X dX12_stateAtHand_1 rfl (by decide) rfl ?_
  refine g_sub (lv' := [(0, .ref (r 200)), (1, iv 0)]) [1, 0] rfl (t_f_X12_stateAtHand_L2 X (fun t19 h => ?_) N 0 t h)
  · refine g_iconst X dX12_stateAtHand_69 ?_
    exact g_iret X h dX12_stateAtHand_70
set_option maxHeartbeats 4000000 in
set_option maxRecDepth 100000 in
theorem cp_X12_stateAtHand (l : Launch) (E : cE) (r : Nat → Nat) (N : Nat) (t : St) (z : Int × St) (h : f_X12_stateAtHand N t = some z) : cM l E yX12_stateAtHand cX12_stateAtHand 4 (some .int) rm_f_X12_stateAtHand [.ref (r 200)] (gW E r shM t) (gqI E (gW E r shM) z) := by
  refine g_of (w := gW E r shM) (by decide) (Nat.le_of_ble_eq_true rfl) ?_
  intro p e s m below meth c A X
  exact g_sub (lv' := [(0, .ref (r 200))]) [0] rfl (b_f_X12_stateAtHand X h)
theorem yy_X12_stateAtHand : cY yX12_stateAtHand cX12_stateAtHand 4 (some .int) 0 := ⟨wdK_X12_stateAtHand, wdZ_RX12, by decide +kernel⟩
theorem yi_X12_stateAtHand : cYi yX12_stateAtHand := ⟨wdN_X12_stateAtHand, wdS_X12_stateAtHand⟩
theorem dX12_meets_0 : decode cX12_meets 0 = .ok (.aload_n 0, 1) := by decide +kernel
theorem dX12_meets_1 : decode cX12_meets 1 = .ok (.getfield 623, 3) := by decide +kernel
theorem dX12_meets_4 : decode cX12_meets 4 = .ok (.sipush 2000, 3) := by decide +kernel
theorem dX12_meets_7 : decode cX12_meets 7 = .ok (.if_icmp .eq 13, 3) := by decide +kernel
theorem dX12_meets_10 : decode cX12_meets 10 = .ok (.aload_n 0, 1) := by decide +kernel
theorem dX12_meets_11 : decode cX12_meets 11 = .ok (.getfield 629, 3) := by decide +kernel
theorem dX12_meets_14 : decode cX12_meets 14 = .ok (.sipush 10000, 3) := by decide +kernel
theorem dX12_meets_17 : decode cX12_meets 17 = .ok (.if_icmp .ne 5, 3) := by decide +kernel
theorem dX12_meets_20 : decode cX12_meets 20 = .ok (.iconst 0, 1) := by decide +kernel
theorem dX12_meets_21 : decode cX12_meets 21 = .ok (.ireturn, 1) := by decide +kernel
theorem dX12_meets_22 : decode cX12_meets 22 = .ok (.iconst 0, 1) := by decide +kernel
theorem dX12_meets_23 : decode cX12_meets 23 = .ok (.istore_n 2, 1) := by decide +kernel
theorem dX12_meets_24 : decode cX12_meets 24 = .ok (.iload_n 2, 1) := by decide +kernel
theorem dX12_meets_25 : decode cX12_meets 25 = .ok (.aload_n 0, 1) := by decide +kernel
theorem dX12_meets_26 : decode cX12_meets 26 = .ok (.getfield 231, 3) := by decide +kernel
theorem dX12_meets_29 : decode cX12_meets 29 = .ok (.if_icmp .ge 28, 3) := by decide +kernel
theorem dX12_meets_32 : decode cX12_meets 32 = .ok (.aload_n 0, 1) := by decide +kernel
theorem dX12_meets_33 : decode cX12_meets 33 = .ok (.getfield 174, 3) := by decide +kernel
theorem dX12_meets_36 : decode cX12_meets 36 = .ok (.bipush 16, 2) := by decide +kernel
theorem dX12_meets_38 : decode cX12_meets 38 = .ok (.aload_n 0, 1) := by decide +kernel
theorem dX12_meets_39 : decode cX12_meets 39 = .ok (.getfield 623, 3) := by decide +kernel
theorem dX12_meets_42 : decode cX12_meets 42 = .ok (.imul, 1) := by decide +kernel
theorem dX12_meets_43 : decode cX12_meets 43 = .ok (.iload_n 2, 1) := by decide +kernel
theorem dX12_meets_44 : decode cX12_meets 44 = .ok (.iadd, 1) := by decide +kernel
theorem dX12_meets_45 : decode cX12_meets 45 = .ok (.aload_n 0, 1) := by decide +kernel
theorem dX12_meets_46 : decode cX12_meets 46 = .ok (.iload_n 2, 1) := by decide +kernel
theorem dX12_meets_47 : decode cX12_meets 47 = .ok (.invokevirtual 626, 3) := by decide +kernel
theorem dX12_meets_50 : decode cX12_meets 50 = .ok (.iastore, 1) := by decide +kernel
theorem dX12_meets_51 : decode cX12_meets 51 = .ok (.iinc 2 1, 3) := by decide +kernel
theorem dX12_meets_54 : decode cX12_meets 54 = .ok (.goto (-30), 3) := by decide +kernel
theorem dX12_meets_57 : decode cX12_meets 57 = .ok (.aload_n 0, 1) := by decide +kernel
theorem dX12_meets_58 : decode cX12_meets 58 = .ok (.getfield 177, 3) := by decide +kernel
theorem dX12_meets_61 : decode cX12_meets 61 = .ok (.aload_n 0, 1) := by decide +kernel
theorem dX12_meets_62 : decode cX12_meets 62 = .ok (.getfield 623, 3) := by decide +kernel
theorem dX12_meets_65 : decode cX12_meets 65 = .ok (.iload_n 1, 1) := by decide +kernel
theorem dX12_meets_66 : decode cX12_meets 66 = .ok (.iastore, 1) := by decide +kernel
theorem dX12_meets_67 : decode cX12_meets 67 = .ok (.aload_n 0, 1) := by decide +kernel
theorem dX12_meets_68 : decode cX12_meets 68 = .ok (.invokevirtual 632, 3) := by decide +kernel
theorem dX12_meets_71 : decode cX12_meets 71 = .ok (.ifCond .eq 11, 3) := by decide +kernel
theorem dX12_meets_74 : decode cX12_meets 74 = .ok (.aload_n 0, 1) := by decide +kernel
theorem dX12_meets_75 : decode cX12_meets 75 = .ok (.aload_n 0, 1) := by decide +kernel
theorem dX12_meets_76 : decode cX12_meets 76 = .ok (.getfield 623, 3) := by decide +kernel
theorem dX12_meets_79 : decode cX12_meets 79 = .ok (.putfield 193, 3) := by decide +kernel
theorem dX12_meets_82 : decode cX12_meets 82 = .ok (.aload_n 0, 1) := by decide +kernel
theorem dX12_meets_83 : decode cX12_meets 83 = .ok (.dup, 1) := by decide +kernel
theorem dX12_meets_84 : decode cX12_meets 84 = .ok (.getfield 623, 3) := by decide +kernel
theorem dX12_meets_87 : decode cX12_meets 87 = .ok (.iconst 1, 1) := by decide +kernel
theorem dX12_meets_88 : decode cX12_meets 88 = .ok (.iadd, 1) := by decide +kernel
theorem dX12_meets_89 : decode cX12_meets 89 = .ok (.putfield 623, 3) := by decide +kernel
theorem dX12_meets_92 : decode cX12_meets 92 = .ok (.aload_n 0, 1) := by decide +kernel
theorem dX12_meets_93 : decode cX12_meets 93 = .ok (.dup, 1) := by decide +kernel
theorem dX12_meets_94 : decode cX12_meets 94 = .ok (.getfield 629, 3) := by decide +kernel
theorem dX12_meets_97 : decode cX12_meets 97 = .ok (.iconst 1, 1) := by decide +kernel
theorem dX12_meets_98 : decode cX12_meets 98 = .ok (.iadd, 1) := by decide +kernel
theorem dX12_meets_99 : decode cX12_meets 99 = .ok (.putfield 629, 3) := by decide +kernel
theorem dX12_meets_102 : decode cX12_meets 102 = .ok (.iconst 1, 1) := by decide +kernel
theorem dX12_meets_103 : decode cX12_meets 103 = .ok (.ireturn, 1) := by decide +kernel
abbrev rm_f_X12_meets : Room := { frames := 1, cells := 0, slots := 0, locals := 22 }
def f_X12_meets_L24 (N : Nat) (K6 : (St → Option (Int × St))) : Nat → Int → St → Option (Int × St)
  | 0, _, _ => none
  | n9 + 1, x4, t5 =>
    lt1 (t5.1 200 37) fun v7 =>
    cmpI x4 v7 (if x4 < v7 then (lt1 (t5.1 200 90) fun v8 =>
    bdI (f_X12_packed N x4 t5) fun v10 t9 =>
    ixI ((16 * v8) + x4) 32000 (lt1 (pI t9 92 ((16 * v8) + x4).toNat v10) fun t11 =>
    f_X12_meets_L24 N K6 n9 (x4 + 1) t11))
    else (K6 t5))
def f_X12_meets (N : Nat) (a0 : Int) (t : St) : Option (Int × St) :=
    lt1 (t.1 200 90) fun v1 =>
    cmpI v1 2000 (if v1 = 2000 then (boI 0 (some (0, t)))
    else (lt1 (t.1 200 89) fun v2 =>
    cmpI v2 10000 (if v2 = 10000 then (boI 0 (some (0, t)))
    else (f_X12_meets_L24 N (fun (t12 : St) => lt1 (t12.1 200 90) fun v13 =>
    ixI v13 2000 (lt1 (pI t12 93 v13.toNat a0) fun t14 =>
    bdI (f_X12_isAim N t14) fun v16 t15 =>
    jn1 (fun (t17 : St) => lt1 (t17.1 200 90) fun v19 =>
    lt1 (pI t17 200 90 (v19 + 1)) fun t20 =>
    lt1 (t20.1 200 89) fun v21 =>
    lt1 (pI t20 200 89 (v21 + 1)) fun t22 =>
    boI 1 (some (1, t22))) fun J18 =>
    cmpI v16 0 (if v16 = 0 then (J18 t15)
    else (lt1 (t15.1 200 90) fun v23 =>
    lt1 (pI t15 200 99 v23) fun t24 =>
    J18 t24)))) N 0 t))))
set_option maxHeartbeats 4000000 in
set_option maxRecDepth 100000 in
theorem t_f_X12_meets_L24 {p : Program} {l : Launch} {e : Env} {s : State} {m : MethodId} {args : Array Value} {below : List Frame} {meth : Method} {c : Code} {E : cE} {A : Nat → Prop} {r : Nat → Nat} {mc ms : Nat} {z : Int × St} {N : Nat} {K6 : (St → Option (Int × St))} {y3 : Int} (X : gX p s m meth c cX12_meets 3 (some .boolean) yX12_meets args E A) (hK6 : ∀ (t9 : St), K6 t9 = some z → gP p l e rm_f_X12_meets s m args below meth c E A 3 (MQ below ((gqI E (gW E r shM) z) A) args s mc ms A) (gW E r shM) 57 [(0, .ref (r 200)), (1, iv y3)] [] t9) : ∀ (n9 : Nat) (x4 : Int) (t5 : St), f_X12_meets_L24 N K6 n9 x4 t5 = some z → gP p l e rm_f_X12_meets s m args below meth c E A 3 (MQ below ((gqI E (gW E r shM) z) A) args s mc ms A) (gW E r shM) 24 [(0, .ref (r 200)), (1, iv y3), (2, iv x4)] [] t5 := by
  intro n9
  induction n9 with
  | zero => intro x4 t5 h; cases h
  | succ n9 ih =>
    intro x4 t5 h
    unfold f_X12_meets_L24 at h
    refine g_iload_n X dX12_meets_24 2 rfl ?_
    refine g_aload_n X dX12_meets_25 0 rfl ?_
    refine g_getI X fM_37 rfl dX12_meets_26 h (fun v7 h => ?_)
    refine g_icmp_ge (tgt := 57) X dX12_meets_29 (by decide) h (fun h => ?_) (fun h => ?_)
    · exact g_sub (lv' := [(0, .ref (r 200)), (1, iv y3)]) [0, 1] rfl (hK6 t5 h)
    · refine g_aload_n X dX12_meets_32 0 rfl ?_
      refine g_getR X fM_92 rfl dX12_meets_33 ?_
      refine g_bipush X dX12_meets_36 (by decide) ?_
      refine g_aload_n X dX12_meets_38 0 rfl ?_
      refine g_getI X fM_90 rfl dX12_meets_39 h (fun v8 h => ?_)
      refine g_imul X dX12_meets_42 ?_
      refine g_iload_n X dX12_meets_43 2 rfl ?_
      refine g_iadd X dX12_meets_44 ?_
      refine g_aload_n X dX12_meets_45 0 rfl ?_
      refine g_iload_n X dX12_meets_46 2 rfl ?_
      refine g_callI (rest := [iv ((16 * v8) + x4), .ref (r 92)]) X (fun u9 h9 => cp_X12_packed l E r N x4 t5 u9 h9) yy_X12_packed yi_X12_packed wdM_RX12_626 0 12 (gW_at oM) rfl rfl rfl (Nat.le_of_ble_eq_true rfl) dX12_meets_47 ⟨by decide, by decide⟩ ⟨rfl, rfl⟩ h (fun v10 t9 h => ?_)
      refine g_iast X aM_92 dX12_meets_50 h (fun t11 h => ?_)
      refine g_iinc (lv' := [(2, iv (x4 + 1)), (0, .ref (r 200)), (1, iv y3)]) X dX12_meets_51 (k := 2) rfl (by decide) rfl ?_
      refine g_goto (tgt := 24) X dX12_meets_54 (by decide) ?_
      exact g_sub (lv' := [(0, .ref (r 200)), (1, iv y3), (2, iv (x4 + 1))]) [1, 2, 0] rfl (ih (x4 + 1) t11 h)
set_option maxHeartbeats 4000000 in
set_option maxRecDepth 100000 in
theorem b_f_X12_meets {p : Program} {l : Launch} {e : Env} {s : State} {m : MethodId} {args : Array Value} {below : List Frame} {meth : Method} {c : Code} {E : cE} {A : Nat → Prop} {r : Nat → Nat} {mc ms : Nat} {z : Int × St} {N : Nat} {a0 : Int} {t : St} (X : gX p s m meth c cX12_meets 3 (some .boolean) yX12_meets args E A) (h : f_X12_meets N a0 t = some z) : gP p l e rm_f_X12_meets s m args below meth c E A 3 (MQ below ((gqI E (gW E r shM) z) A) args s mc ms A) (gW E r shM) 0 [(0, .ref (r 200)), (1, iv a0)] [] t := by
  unfold f_X12_meets at h
  refine g_aload_n X dX12_meets_0 0 rfl ?_
  refine g_getI X fM_90 rfl dX12_meets_1 h (fun v1 h => ?_)
  refine g_sipush X dX12_meets_4 (by decide) ?_
  refine g_icmp_eq (tgt := 20) X dX12_meets_7 (by decide) h (fun h => ?_) (fun h => ?_)
  · refine g_iconst X dX12_meets_20 ?_
    exact g_zret X h dX12_meets_21
  · refine g_aload_n X dX12_meets_10 0 rfl ?_
    refine g_getI X fM_89 rfl dX12_meets_11 h (fun v2 h => ?_)
    refine g_sipush X dX12_meets_14 (by decide) ?_
    refine g_icmp_ne (tgt := 22) X dX12_meets_17 (by decide) h (fun h => ?_) (fun h => ?_)
    · refine g_iconst X dX12_meets_22 ?_
      refine g_istore_n (lv' := [(2, iv 0), (0, .ref (r 200)), (1, iv a0)]) X dX12_meets_23 rfl (by decide) rfl ?_
      refine g_sub (lv' := [(0, .ref (r 200)), (1, iv a0), (2, iv 0)]) [1, 2, 0] rfl (t_f_X12_meets_L24 X (fun t12 h => ?_) N 0 t h)
      · refine g_aload_n X dX12_meets_57 0 rfl ?_
        refine g_getR X fM_93 rfl dX12_meets_58 ?_
        refine g_aload_n X dX12_meets_61 0 rfl ?_
        refine g_getI X fM_90 rfl dX12_meets_62 h (fun v13 h => ?_)
        refine g_iload_n X dX12_meets_65 1 rfl ?_
        refine g_iast X aM_93 dX12_meets_66 h (fun t14 h => ?_)
        refine g_aload_n X dX12_meets_67 0 rfl ?_
        refine g_callI (rest := []) X (fun u9 h9 => cp_X12_isAim l E r N t14 u9 h9) yy_X12_isAim yi_X12_isAim wdM_RX12_632 0 12 (gW_at oM) rfl rfl rfl (Nat.le_of_ble_eq_true rfl) dX12_meets_68 ⟨by decide, by decide⟩ ⟨rfl, rfl⟩ h (fun v16 t15 h => ?_)
        refine g_join (J := fun jj => ∀ (t17 : St), jj  t17 = some z → gP p l e rm_f_X12_meets s m args below meth c E A 3 (MQ below ((gqI E (gW E r shM) z) A) args s mc ms A) (gW E r shM) 82 [(0, .ref (r 200))] [] t17) h (fun  t17 h => ?_) (fun J18 hJ18 h => ?_)
        · refine g_aload_n X dX12_meets_82 0 rfl ?_
          refine g_dup X rfl dX12_meets_83 ?_
          refine g_getI X fM_90 rfl dX12_meets_84 h (fun v19 h => ?_)
          refine g_iconst X dX12_meets_87 ?_
          refine g_iadd X dX12_meets_88 ?_
          refine g_putI X fM_90w rfl dX12_meets_89 h (fun t20 h => ?_)
          refine g_aload_n X dX12_meets_92 0 rfl ?_
          refine g_dup X rfl dX12_meets_93 ?_
          refine g_getI X fM_89 rfl dX12_meets_94 h (fun v21 h => ?_)
          refine g_iconst X dX12_meets_97 ?_
          refine g_iadd X dX12_meets_98 ?_
          refine g_putI X fM_89w rfl dX12_meets_99 h (fun t22 h => ?_)
          refine g_iconst X dX12_meets_102 ?_
          exact g_zret X h dX12_meets_103
        refine g_if_eq (tgt := 82) X dX12_meets_71 (by decide) h (fun h => ?_) (fun h => ?_)
        · exact g_sub (lv' := [(0, .ref (r 200))]) [0] rfl (hJ18 t15 h)
        · refine g_aload_n X dX12_meets_74 0 rfl ?_
          refine g_aload_n X dX12_meets_75 0 rfl ?_
          refine g_getI X fM_90 rfl dX12_meets_76 h (fun v23 h => ?_)
          refine g_putI X fM_99w rfl dX12_meets_79 h (fun t24 h => ?_)
          exact g_sub (lv' := [(0, .ref (r 200))]) [0] rfl (hJ18 t24 h)
    · refine g_iconst X dX12_meets_20 ?_
      exact g_zret X h dX12_meets_21
set_option maxHeartbeats 4000000 in
set_option maxRecDepth 100000 in
theorem cp_X12_meets (l : Launch) (E : cE) (r : Nat → Nat) (N : Nat) (a0 : Int) (t : St) (z : Int × St) (h : f_X12_meets N a0 t = some z) : cM l E yX12_meets cX12_meets 3 (some .boolean) rm_f_X12_meets [.ref (r 200), iv a0] (gW E r shM t) (gqI E (gW E r shM) z) := by
  refine g_of (w := gW E r shM) (by decide) (Nat.le_of_ble_eq_true rfl) ?_
  intro p e s m below meth c A X
  exact g_sub (lv' := [(0, .ref (r 200)), (1, iv a0)]) [0, 1] rfl (b_f_X12_meets X h)
theorem yy_X12_meets : cY yX12_meets cX12_meets 3 (some .boolean) 1 := ⟨wdK_X12_meets, wdZ_RX12, by decide +kernel⟩
theorem yi_X12_meets : cYi yX12_meets := ⟨wdN_X12_meets, wdS_X12_meets⟩
theorem dX12_priceOf_0 : decode cX12_priceOf 0 = .ok (.iconst 0, 1) := by decide +kernel
theorem dX12_priceOf_1 : decode cX12_priceOf 1 = .ok (.istore_n 2, 1) := by decide +kernel
theorem dX12_priceOf_2 : decode cX12_priceOf 2 = .ok (.iload_n 1, 1) := by decide +kernel
theorem dX12_priceOf_3 : decode cX12_priceOf 3 = .ok (.istore_n 3, 1) := by decide +kernel
theorem dX12_priceOf_4 : decode cX12_priceOf 4 = .ok (.aload_n 0, 1) := by decide +kernel
theorem dX12_priceOf_5 : decode cX12_priceOf 5 = .ok (.getfield 65, 3) := by decide +kernel
theorem dX12_priceOf_8 : decode cX12_priceOf 8 = .ok (.iload_n 3, 1) := by decide +kernel
theorem dX12_priceOf_9 : decode cX12_priceOf 9 = .ok (.iaload, 1) := by decide +kernel
theorem dX12_priceOf_10 : decode cX12_priceOf 10 = .ok (.sipush 5059, 3) := by decide +kernel
theorem dX12_priceOf_13 : decode cX12_priceOf 13 = .ok (.if_icmp .eq 45, 3) := by decide +kernel
theorem dX12_priceOf_16 : decode cX12_priceOf 16 = .ok (.aload_n 0, 1) := by decide +kernel
theorem dX12_priceOf_17 : decode cX12_priceOf 17 = .ok (.getfield 65, 3) := by decide +kernel
theorem dX12_priceOf_20 : decode cX12_priceOf 20 = .ok (.iload_n 3, 1) := by decide +kernel
theorem dX12_priceOf_21 : decode cX12_priceOf 21 = .ok (.iaload, 1) := by decide +kernel
theorem dX12_priceOf_22 : decode cX12_priceOf 22 = .ok (.sipush 3000, 3) := by decide +kernel
theorem dX12_priceOf_25 : decode cX12_priceOf 25 = .ok (.sipush 3099, 3) := by decide +kernel
theorem dX12_priceOf_28 : decode cX12_priceOf 28 = .ok (.invokestatic 227, 3) := by decide +kernel
theorem dX12_priceOf_31 : decode cX12_priceOf 31 = .ok (.ifCond .eq 21, 3) := by decide +kernel
theorem dX12_priceOf_34 : decode cX12_priceOf 34 = .ok (.iload_n 2, 1) := by decide +kernel
theorem dX12_priceOf_35 : decode cX12_priceOf 35 = .ok (.aload_n 0, 1) := by decide +kernel
theorem dX12_priceOf_36 : decode cX12_priceOf 36 = .ok (.getfield 47, 3) := by decide +kernel
theorem dX12_priceOf_39 : decode cX12_priceOf 39 = .ok (.aload_n 0, 1) := by decide +kernel
theorem dX12_priceOf_40 : decode cX12_priceOf 40 = .ok (.getfield 65, 3) := by decide +kernel
theorem dX12_priceOf_43 : decode cX12_priceOf 43 = .ok (.iload_n 3, 1) := by decide +kernel
theorem dX12_priceOf_44 : decode cX12_priceOf 44 = .ok (.iaload, 1) := by decide +kernel
theorem dX12_priceOf_45 : decode cX12_priceOf 45 = .ok (.sipush 3000, 3) := by decide +kernel
theorem dX12_priceOf_48 : decode cX12_priceOf 48 = .ok (.isub, 1) := by decide +kernel
theorem dX12_priceOf_49 : decode cX12_priceOf 49 = .ok (.iaload, 1) := by decide +kernel
theorem dX12_priceOf_50 : decode cX12_priceOf 50 = .ok (.iadd, 1) := by decide +kernel
theorem dX12_priceOf_51 : decode cX12_priceOf 51 = .ok (.istore_n 2, 1) := by decide +kernel
theorem dX12_priceOf_52 : decode cX12_priceOf 52 = .ok (.iinc 3 1, 3) := by decide +kernel
theorem dX12_priceOf_55 : decode cX12_priceOf 55 = .ok (.goto (-51), 3) := by decide +kernel
theorem dX12_priceOf_58 : decode cX12_priceOf 58 = .ok (.iload_n 2, 1) := by decide +kernel
theorem dX12_priceOf_59 : decode cX12_priceOf 59 = .ok (.ireturn, 1) := by decide +kernel
abbrev rm_f_X12_priceOf : Room := { frames := 1, cells := 0, slots := 0, locals := 22 }
def f_X12_priceOf_L4 (N : Nat) (K4 : (Int → St → Option (Int × St))) : Nat → Int → Int → St → Option (Int × St)
  | 0, _, _, _ => none
  | n9 + 1, x1, x2, t3 =>
    ixI x2 10100 (lt1 (t3.1 31 x2.toNat) fun v5 =>
    cmpI v5 5059 (if v5 = 5059 then (K4 x1 t3)
    else (ixI x2 10100 (lt1 (t3.1 31 x2.toNat) fun v6 =>
    bdI (f_X12_in N v6 3000 3099 t3) fun v8 t7 =>
    jn1 (fun (j9 : Int) (t10 : St) => f_X12_priceOf_L4 N K4 n9 j9 (x2 + 1) t10) fun J11 =>
    cmpI v8 0 (if v8 = 0 then (J11 x1 t7)
    else (ixI x2 10100 (lt1 (t7.1 31 x2.toNat) fun v12 =>
    ixI (v12 - 3000) 100 (lt1 (t7.1 25 (v12 - 3000).toNat) fun v13 =>
    J11 (x1 + v13) t7))))))))
def f_X12_priceOf (N : Nat) (a0 : Int) (t : St) : Option (Int × St) :=
    f_X12_priceOf_L4 N (fun (k14 : Int) (t15 : St) => some (k14, t15)) N 0 a0 t
set_option maxHeartbeats 4000000 in
set_option maxRecDepth 100000 in
theorem t_f_X12_priceOf_L4 {p : Program} {l : Launch} {e : Env} {s : State} {m : MethodId} {args : Array Value} {below : List Frame} {meth : Method} {c : Code} {E : cE} {A : Nat → Prop} {r : Nat → Nat} {mc ms : Nat} {z : Int × St} {N : Nat} {K4 : (Int → St → Option (Int × St))} (X : gX p s m meth c cX12_priceOf 4 (some .int) yX12_priceOf args E A) (hK4 : ∀ (q2 : Int) (t9 : St), K4 q2 t9 = some z → gP p l e rm_f_X12_priceOf s m args below meth c E A 4 (MQ below ((gqI E (gW E r shM) z) A) args s mc ms A) (gW E r shM) 58 [(2, iv q2)] [] t9) : ∀ (n9 : Nat) (x1 : Int) (x2 : Int) (t3 : St), f_X12_priceOf_L4 N K4 n9 x1 x2 t3 = some z → gP p l e rm_f_X12_priceOf s m args below meth c E A 4 (MQ below ((gqI E (gW E r shM) z) A) args s mc ms A) (gW E r shM) 4 [(0, .ref (r 200)), (2, iv x1), (3, iv x2)] [] t3 := by
  intro n9
  induction n9 with
  | zero => intro x1 x2 t3 h; cases h
  | succ n9 ih =>
    intro x1 x2 t3 h
    unfold f_X12_priceOf_L4 at h
    refine g_aload_n X dX12_priceOf_4 0 rfl ?_
    refine g_getR X fM_31 rfl dX12_priceOf_5 ?_
    refine g_iload_n X dX12_priceOf_8 2 rfl ?_
    refine g_iald X aM_31 dX12_priceOf_9 h (fun v5 h => ?_)
    refine g_sipush X dX12_priceOf_10 (by decide) ?_
    refine g_icmp_eq (tgt := 58) X dX12_priceOf_13 (by decide) h (fun h => ?_) (fun h => ?_)
    · exact g_sub (lv' := [(2, iv x1)]) [1] rfl (hK4 x1 t3 h)
    · refine g_aload_n X dX12_priceOf_16 0 rfl ?_
      refine g_getR X fM_31 rfl dX12_priceOf_17 ?_
      refine g_iload_n X dX12_priceOf_20 2 rfl ?_
      refine g_iald X aM_31 dX12_priceOf_21 h (fun v6 h => ?_)
      refine g_sipush X dX12_priceOf_22 (by decide) ?_
      refine g_sipush X dX12_priceOf_25 (by decide) ?_
      refine g_callsI (rest := []) X (fun u9 h9 => cp_X12_in l E r N v6 3000 3099 t3 u9 h9) yy_X12_in wdT_X12_in wdM_RX12_227 rfl rfl (Nat.le_of_ble_eq_true rfl) dX12_priceOf_28 ⟨by decide, by decide⟩ ⟨rfl, rfl⟩ h (fun v8 t7 h => ?_)
      refine g_join (J := fun jj => ∀ (j9 : Int) (t10 : St), jj j9 t10 = some z → gP p l e rm_f_X12_priceOf s m args below meth c E A 4 (MQ below ((gqI E (gW E r shM) z) A) args s mc ms A) (gW E r shM) 52 [(0, .ref (r 200)), (2, iv j9), (3, iv x2)] [] t10) h (fun j9 t10 h => ?_) (fun J11 hJ11 h => ?_)
      · refine g_iinc (lv' := [(3, iv (x2 + 1)), (0, .ref (r 200)), (2, iv j9)]) X dX12_priceOf_52 (k := 2) rfl (by decide) rfl ?_
        refine g_goto (tgt := 4) X dX12_priceOf_55 (by decide) ?_
        exact g_sub (lv' := [(0, .ref (r 200)), (2, iv j9), (3, iv (x2 + 1))]) [1, 2, 0] rfl (ih j9 (x2 + 1) t10 h)
      refine g_if_eq (tgt := 52) X dX12_priceOf_31 (by decide) h (fun h => ?_) (fun h => ?_)
      · exact g_sub (lv' := [(0, .ref (r 200)), (2, iv x1), (3, iv x2)]) [0, 1, 2] rfl (hJ11 x1 t7 h)
      · refine g_iload_n X dX12_priceOf_34 1 rfl ?_
        refine g_aload_n X dX12_priceOf_35 0 rfl ?_
        refine g_getR X fM_25 rfl dX12_priceOf_36 ?_
        refine g_aload_n X dX12_priceOf_39 0 rfl ?_
        refine g_getR X fM_31 rfl dX12_priceOf_40 ?_
        refine g_iload_n X dX12_priceOf_43 2 rfl ?_
        refine g_iald X aM_31 dX12_priceOf_44 h (fun v12 h => ?_)
        refine g_sipush X dX12_priceOf_45 (by decide) ?_
        refine g_isub X dX12_priceOf_48 ?_
        refine g_iald X aM_25 dX12_priceOf_49 h (fun v13 h => ?_)
        refine g_iadd X dX12_priceOf_50 ?_
        refine g_istore_n (lv' := [(2, iv (x1 + v13)), (0, .ref (r 200)), (3, iv x2)]) X dX12_priceOf_51 rfl (by decide) rfl ?_
        exact g_sub (lv' := [(0, .ref (r 200)), (2, iv (x1 + v13)), (3, iv x2)]) [1, 0, 2] rfl (hJ11 (x1 + v13) t7 h)
set_option maxHeartbeats 4000000 in
set_option maxRecDepth 100000 in
theorem b_f_X12_priceOf {p : Program} {l : Launch} {e : Env} {s : State} {m : MethodId} {args : Array Value} {below : List Frame} {meth : Method} {c : Code} {E : cE} {A : Nat → Prop} {r : Nat → Nat} {mc ms : Nat} {z : Int × St} {N : Nat} {a0 : Int} {t : St} (X : gX p s m meth c cX12_priceOf 4 (some .int) yX12_priceOf args E A) (h : f_X12_priceOf N a0 t = some z) : gP p l e rm_f_X12_priceOf s m args below meth c E A 4 (MQ below ((gqI E (gW E r shM) z) A) args s mc ms A) (gW E r shM) 0 [(0, .ref (r 200)), (1, iv a0)] [] t := by
  unfold f_X12_priceOf at h
  refine g_iconst X dX12_priceOf_0 ?_
  refine g_istore_n (lv' := [(2, iv 0), (0, .ref (r 200)), (1, iv a0)]) X dX12_priceOf_1 rfl (by decide) rfl ?_
  refine g_iload_n X dX12_priceOf_2 2 rfl ?_
  refine g_istore_n (lv' := [(3, iv a0), (2, iv 0), (0, .ref (r 200)), (1, iv a0)]) X dX12_priceOf_3 rfl (by decide) rfl ?_
  refine g_sub (lv' := [(0, .ref (r 200)), (2, iv 0), (3, iv a0)]) [2, 1, 0] rfl (t_f_X12_priceOf_L4 X (fun k14 t15 h => ?_) N 0 a0 t h)
  · refine g_iload_n X dX12_priceOf_58 0 rfl ?_
    exact g_iret X h dX12_priceOf_59
set_option maxHeartbeats 4000000 in
set_option maxRecDepth 100000 in
theorem cp_X12_priceOf (l : Launch) (E : cE) (r : Nat → Nat) (N : Nat) (a0 : Int) (t : St) (z : Int × St) (h : f_X12_priceOf N a0 t = some z) : cM l E yX12_priceOf cX12_priceOf 4 (some .int) rm_f_X12_priceOf [.ref (r 200), iv a0] (gW E r shM t) (gqI E (gW E r shM) z) := by
  refine g_of (w := gW E r shM) (by decide) (Nat.le_of_ble_eq_true rfl) ?_
  intro p e s m below meth c A X
  exact g_sub (lv' := [(0, .ref (r 200)), (1, iv a0)]) [0, 1] rfl (b_f_X12_priceOf X h)
theorem yy_X12_priceOf : cY yX12_priceOf cX12_priceOf 4 (some .int) 1 := ⟨wdK_X12_priceOf, wdZ_RX12, by decide +kernel⟩
theorem yi_X12_priceOf : cYi yX12_priceOf := ⟨wdN_X12_priceOf, wdS_X12_priceOf⟩
theorem dX12_isOnWay_0 : decode cX12_isOnWay 0 = .ok (.aload_n 0, 1) := by decide +kernel
theorem dX12_isOnWay_1 : decode cX12_isOnWay 1 = .ok (.getfield 181, 3) := by decide +kernel
theorem dX12_isOnWay_4 : decode cX12_isOnWay 4 = .ok (.bipush 32, 2) := by decide +kernel
theorem dX12_isOnWay_6 : decode cX12_isOnWay 6 = .ok (.iload_n 1, 1) := by decide +kernel
theorem dX12_isOnWay_7 : decode cX12_isOnWay 7 = .ok (.imul, 1) := by decide +kernel
theorem dX12_isOnWay_8 : decode cX12_isOnWay 8 = .ok (.iload_n 2, 1) := by decide +kernel
theorem dX12_isOnWay_9 : decode cX12_isOnWay 9 = .ok (.iadd, 1) := by decide +kernel
theorem dX12_isOnWay_10 : decode cX12_isOnWay 10 = .ok (.iaload, 1) := by decide +kernel
theorem dX12_isOnWay_11 : decode cX12_isOnWay 11 = .ok (.istore_n 3, 1) := by decide +kernel
theorem dX12_isOnWay_12 : decode cX12_isOnWay 12 = .ok (.iload_n 3, 1) := by decide +kernel
theorem dX12_isOnWay_13 : decode cX12_isOnWay 13 = .ok (.iconst (-1), 1) := by decide +kernel
theorem dX12_isOnWay_14 : decode cX12_isOnWay 14 = .ok (.if_icmp .eq 35, 3) := by decide +kernel
theorem dX12_isOnWay_17 : decode cX12_isOnWay 17 = .ok (.aload_n 0, 1) := by decide +kernel
theorem dX12_isOnWay_18 : decode cX12_isOnWay 18 = .ok (.getfield 177, 3) := by decide +kernel
theorem dX12_isOnWay_21 : decode cX12_isOnWay 21 = .ok (.iload_n 3, 1) := by decide +kernel
theorem dX12_isOnWay_22 : decode cX12_isOnWay 22 = .ok (.iaload, 1) := by decide +kernel
theorem dX12_isOnWay_23 : decode cX12_isOnWay 23 = .ok (.aload_n 0, 1) := by decide +kernel
theorem dX12_isOnWay_24 : decode cX12_isOnWay 24 = .ok (.getfield 177, 3) := by decide +kernel
theorem dX12_isOnWay_27 : decode cX12_isOnWay 27 = .ok (.iload_n 1, 1) := by decide +kernel
theorem dX12_isOnWay_28 : decode cX12_isOnWay 28 = .ok (.iaload, 1) := by decide +kernel
theorem dX12_isOnWay_29 : decode cX12_isOnWay 29 = .ok (.iconst 1, 1) := by decide +kernel
theorem dX12_isOnWay_30 : decode cX12_isOnWay 30 = .ok (.iadd, 1) := by decide +kernel
theorem dX12_isOnWay_31 : decode cX12_isOnWay 31 = .ok (.if_icmp .ne 18, 3) := by decide +kernel
theorem dX12_isOnWay_34 : decode cX12_isOnWay 34 = .ok (.aload_n 0, 1) := by decide +kernel
theorem dX12_isOnWay_35 : decode cX12_isOnWay 35 = .ok (.getfield 184, 3) := by decide +kernel
theorem dX12_isOnWay_38 : decode cX12_isOnWay 38 = .ok (.iload_n 3, 1) := by decide +kernel
theorem dX12_isOnWay_39 : decode cX12_isOnWay 39 = .ok (.laload, 1) := by decide +kernel
theorem dX12_isOnWay_40 : decode cX12_isOnWay 40 = .ok (.lconst 0, 1) := by decide +kernel
theorem dX12_isOnWay_41 : decode cX12_isOnWay 41 = .ok (.lcmp, 1) := by decide +kernel
theorem dX12_isOnWay_42 : decode cX12_isOnWay 42 = .ok (.ifCond .le 7, 3) := by decide +kernel
theorem dX12_isOnWay_45 : decode cX12_isOnWay 45 = .ok (.iconst 1, 1) := by decide +kernel
theorem dX12_isOnWay_46 : decode cX12_isOnWay 46 = .ok (.goto 4, 3) := by decide +kernel
theorem dX12_isOnWay_49 : decode cX12_isOnWay 49 = .ok (.iconst 0, 1) := by decide +kernel
theorem dX12_isOnWay_50 : decode cX12_isOnWay 50 = .ok (.ireturn, 1) := by decide +kernel
abbrev rm_f_X12_isOnWay : Room := { frames := 0, cells := 0, slots := 0, locals := 0 }
def f_X12_isOnWay (N : Nat) (a0 : Int) (a1 : Int) (t : St) : Option (Int × St) :=
    ixI ((32 * a0) + a1) 64000 (lt1 (t.1 94 ((32 * a0) + a1).toNat) fun v1 =>
    cmpI v1 (-1) (if v1 = (-1) then (boI 0 (some (0, t)))
    else (ixI v1 2000 (lt1 (t.1 93 v1.toNat) fun v2 =>
    ixI a0 2000 (lt1 (t.1 93 a0.toNat) fun v3 =>
    cmpI v2 (v3 + 1) (if v2 = (v3 + 1) then (ixI v1 2000 (lt1 (t.2 95 v1.toNat) fun v4 =>
    (if (0 : Int64) < v4 then (boI 1 (some (1, t)))
    else (boI 0 (some (0, t))))))
    else (boI 0 (some (0, t)))))))))
set_option maxHeartbeats 4000000 in
set_option maxRecDepth 100000 in
theorem b_f_X12_isOnWay {p : Program} {l : Launch} {e : Env} {s : State} {m : MethodId} {args : Array Value} {below : List Frame} {meth : Method} {c : Code} {E : cE} {A : Nat → Prop} {r : Nat → Nat} {mc ms : Nat} {z : Int × St} {N : Nat} {a0 : Int} {a1 : Int} {t : St} (X : gX p s m meth c cX12_isOnWay 4 (some .boolean) yX12_isOnWay args E A) (h : f_X12_isOnWay N a0 a1 t = some z) : gP p l e rm_f_X12_isOnWay s m args below meth c E A 4 (MQ below ((gqI E (gW E r shM) z) A) args s mc ms A) (gW E r shM) 0 [(0, .ref (r 200)), (1, iv a0), (2, iv a1)] [] t := by
  unfold f_X12_isOnWay at h
  refine g_aload_n X dX12_isOnWay_0 0 rfl ?_
  refine g_getR X fM_94 rfl dX12_isOnWay_1 ?_
  refine g_bipush X dX12_isOnWay_4 (by decide) ?_
  refine g_iload_n X dX12_isOnWay_6 1 rfl ?_
  refine g_imul X dX12_isOnWay_7 ?_
  refine g_iload_n X dX12_isOnWay_8 2 rfl ?_
  refine g_iadd X dX12_isOnWay_9 ?_
  refine g_iald X aM_94 dX12_isOnWay_10 h (fun v1 h => ?_)
  refine g_istore_n (lv' := [(3, iv v1), (0, .ref (r 200)), (1, iv a0), (2, iv a1)]) X dX12_isOnWay_11 rfl (by decide) rfl ?_
  refine g_iload_n X dX12_isOnWay_12 0 rfl ?_
  refine g_iconst X dX12_isOnWay_13 ?_
  refine g_icmp_eq (tgt := 49) X dX12_isOnWay_14 (by decide) h (fun h => ?_) (fun h => ?_)
  · refine g_iconst X dX12_isOnWay_49 ?_
    exact g_zret X h dX12_isOnWay_50
  · refine g_aload_n X dX12_isOnWay_17 1 rfl ?_
    refine g_getR X fM_93 rfl dX12_isOnWay_18 ?_
    refine g_iload_n X dX12_isOnWay_21 0 rfl ?_
    refine g_iald X aM_93 dX12_isOnWay_22 h (fun v2 h => ?_)
    refine g_aload_n X dX12_isOnWay_23 1 rfl ?_
    refine g_getR X fM_93 rfl dX12_isOnWay_24 ?_
    refine g_iload_n X dX12_isOnWay_27 2 rfl ?_
    refine g_iald X aM_93 dX12_isOnWay_28 h (fun v3 h => ?_)
    refine g_iconst X dX12_isOnWay_29 ?_
    refine g_iadd X dX12_isOnWay_30 ?_
    refine g_icmp_ne (tgt := 49) X dX12_isOnWay_31 (by decide) h (fun h => ?_) (fun h => ?_)
    · refine g_iconst X dX12_isOnWay_49 ?_
      exact g_zret X h dX12_isOnWay_50
    · refine g_aload_n X dX12_isOnWay_34 1 rfl ?_
      refine g_getR X fM_95 rfl dX12_isOnWay_35 ?_
      refine g_iload_n X dX12_isOnWay_38 0 rfl ?_
      refine g_lald X aM_95 dX12_isOnWay_39 h (fun v4 h => ?_)
      refine g_lconst (v := 0) X dX12_isOnWay_40 (by decide) ?_
      refine g_lcmp_le (tgt := 49) X dX12_isOnWay_41 dX12_isOnWay_42 (by decide) h (fun h => ?_) (fun h => ?_)
      · refine g_iconst X dX12_isOnWay_49 ?_
        exact g_zret X h dX12_isOnWay_50
      · refine g_iconst X dX12_isOnWay_45 ?_
        refine g_goto (tgt := 50) X dX12_isOnWay_46 (by decide) ?_
        exact g_zret X h dX12_isOnWay_50
set_option maxHeartbeats 4000000 in
set_option maxRecDepth 100000 in
theorem cp_X12_isOnWay (l : Launch) (E : cE) (r : Nat → Nat) (N : Nat) (a0 : Int) (a1 : Int) (t : St) (z : Int × St) (h : f_X12_isOnWay N a0 a1 t = some z) : cM l E yX12_isOnWay cX12_isOnWay 4 (some .boolean) rm_f_X12_isOnWay [.ref (r 200), iv a0, iv a1] (gW E r shM t) (gqI E (gW E r shM) z) := by
  refine g_of (w := gW E r shM) (by decide) (Nat.le_of_ble_eq_true rfl) ?_
  intro p e s m below meth c A X
  exact g_sub (lv' := [(0, .ref (r 200)), (1, iv a0), (2, iv a1)]) [0, 1, 2] rfl (b_f_X12_isOnWay X h)
theorem yy_X12_isOnWay : cY yX12_isOnWay cX12_isOnWay 4 (some .boolean) 2 := ⟨wdK_X12_isOnWay, wdZ_RX12, by decide +kernel⟩
theorem yi_X12_isOnWay : cYi yX12_isOnWay := ⟨wdN_X12_isOnWay, wdS_X12_isOnWay⟩
theorem dX12_reckonsWays_0 : decode cX12_reckonsWays 0 = .ok (.iconst 0, 1) := by decide +kernel
theorem dX12_reckonsWays_1 : decode cX12_reckonsWays 1 = .ok (.istore_n 2, 1) := by decide +kernel
theorem dX12_reckonsWays_2 : decode cX12_reckonsWays 2 = .ok (.iload_n 2, 1) := by decide +kernel
theorem dX12_reckonsWays_3 : decode cX12_reckonsWays 3 = .ok (.aload_n 0, 1) := by decide +kernel
theorem dX12_reckonsWays_4 : decode cX12_reckonsWays 4 = .ok (.getfield 635, 3) := by decide +kernel
theorem dX12_reckonsWays_7 : decode cX12_reckonsWays 7 = .ok (.if_icmp .ge 102, 3) := by decide +kernel
theorem dX12_reckonsWays_10 : decode cX12_reckonsWays 10 = .ok (.aload_n 0, 1) := by decide +kernel
theorem dX12_reckonsWays_11 : decode cX12_reckonsWays 11 = .ok (.iload_n 1, 1) := by decide +kernel
theorem dX12_reckonsWays_12 : decode cX12_reckonsWays 12 = .ok (.iload_n 2, 1) := by decide +kernel
theorem dX12_reckonsWays_13 : decode cX12_reckonsWays 13 = .ok (.invokevirtual 668, 3) := by decide +kernel
theorem dX12_reckonsWays_16 : decode cX12_reckonsWays 16 = .ok (.ifCond .ne 6, 3) := by decide +kernel
theorem dX12_reckonsWays_19 : decode cX12_reckonsWays 19 = .ok (.goto 84, 3) := by decide +kernel
theorem dX12_reckonsWays_22 : decode cX12_reckonsWays 22 = .ok (.aload_n 0, 1) := by decide +kernel
theorem dX12_reckonsWays_23 : decode cX12_reckonsWays 23 = .ok (.getfield 181, 3) := by decide +kernel
theorem dX12_reckonsWays_26 : decode cX12_reckonsWays 26 = .ok (.bipush 32, 2) := by decide +kernel
theorem dX12_reckonsWays_28 : decode cX12_reckonsWays 28 = .ok (.iload_n 1, 1) := by decide +kernel
theorem dX12_reckonsWays_29 : decode cX12_reckonsWays 29 = .ok (.imul, 1) := by decide +kernel
theorem dX12_reckonsWays_30 : decode cX12_reckonsWays 30 = .ok (.iload_n 2, 1) := by decide +kernel
theorem dX12_reckonsWays_31 : decode cX12_reckonsWays 31 = .ok (.iadd, 1) := by decide +kernel
theorem dX12_reckonsWays_32 : decode cX12_reckonsWays 32 = .ok (.iaload, 1) := by decide +kernel
theorem dX12_reckonsWays_33 : decode cX12_reckonsWays 33 = .ok (.istore_n 3, 1) := by decide +kernel
theorem dX12_reckonsWays_34 : decode cX12_reckonsWays 34 = .ok (.aload_n 0, 1) := by decide +kernel
theorem dX12_reckonsWays_35 : decode cX12_reckonsWays 35 = .ok (.getfield 187, 3) := by decide +kernel
theorem dX12_reckonsWays_38 : decode cX12_reckonsWays 38 = .ok (.iload_n 3, 1) := by decide +kernel
theorem dX12_reckonsWays_39 : decode cX12_reckonsWays 39 = .ok (.iaload, 1) := by decide +kernel
theorem dX12_reckonsWays_40 : decode cX12_reckonsWays 40 = .ok (.aload_n 0, 1) := by decide +kernel
theorem dX12_reckonsWays_41 : decode cX12_reckonsWays 41 = .ok (.getfield 190, 3) := by decide +kernel
theorem dX12_reckonsWays_44 : decode cX12_reckonsWays 44 = .ok (.iload_n 2, 1) := by decide +kernel
theorem dX12_reckonsWays_45 : decode cX12_reckonsWays 45 = .ok (.iaload, 1) := by decide +kernel
theorem dX12_reckonsWays_46 : decode cX12_reckonsWays 46 = .ok (.iadd, 1) := by decide +kernel
theorem dX12_reckonsWays_47 : decode cX12_reckonsWays 47 = .ok (.istore 4, 2) := by decide +kernel
theorem dX12_reckonsWays_49 : decode cX12_reckonsWays 49 = .ok (.aload_n 0, 1) := by decide +kernel
theorem dX12_reckonsWays_50 : decode cX12_reckonsWays 50 = .ok (.getfield 187, 3) := by decide +kernel
theorem dX12_reckonsWays_53 : decode cX12_reckonsWays 53 = .ok (.iload_n 1, 1) := by decide +kernel
theorem dX12_reckonsWays_54 : decode cX12_reckonsWays 54 = .ok (.aload_n 0, 1) := by decide +kernel
theorem dX12_reckonsWays_55 : decode cX12_reckonsWays 55 = .ok (.getfield 184, 3) := by decide +kernel
theorem dX12_reckonsWays_58 : decode cX12_reckonsWays 58 = .ok (.iload_n 1, 1) := by decide +kernel
theorem dX12_reckonsWays_59 : decode cX12_reckonsWays 59 = .ok (.laload, 1) := by decide +kernel
theorem dX12_reckonsWays_60 : decode cX12_reckonsWays 60 = .ok (.lconst 0, 1) := by decide +kernel
theorem dX12_reckonsWays_61 : decode cX12_reckonsWays 61 = .ok (.lcmp, 1) := by decide +kernel
theorem dX12_reckonsWays_62 : decode cX12_reckonsWays 62 = .ok (.ifCond .eq 14, 3) := by decide +kernel
theorem dX12_reckonsWays_65 : decode cX12_reckonsWays 65 = .ok (.iload 4, 2) := by decide +kernel
theorem dX12_reckonsWays_67 : decode cX12_reckonsWays 67 = .ok (.aload_n 0, 1) := by decide +kernel
theorem dX12_reckonsWays_68 : decode cX12_reckonsWays 68 = .ok (.getfield 187, 3) := by decide +kernel
theorem dX12_reckonsWays_71 : decode cX12_reckonsWays 71 = .ok (.iload_n 1, 1) := by decide +kernel
theorem dX12_reckonsWays_72 : decode cX12_reckonsWays 72 = .ok (.iaload, 1) := by decide +kernel
theorem dX12_reckonsWays_73 : decode cX12_reckonsWays 73 = .ok (.if_icmp .ge 8, 3) := by decide +kernel
theorem dX12_reckonsWays_76 : decode cX12_reckonsWays 76 = .ok (.iload 4, 2) := by decide +kernel
theorem dX12_reckonsWays_78 : decode cX12_reckonsWays 78 = .ok (.goto 9, 3) := by decide +kernel
theorem dX12_reckonsWays_81 : decode cX12_reckonsWays 81 = .ok (.aload_n 0, 1) := by decide +kernel
theorem dX12_reckonsWays_82 : decode cX12_reckonsWays 82 = .ok (.getfield 187, 3) := by decide +kernel
theorem dX12_reckonsWays_85 : decode cX12_reckonsWays 85 = .ok (.iload_n 1, 1) := by decide +kernel
theorem dX12_reckonsWays_86 : decode cX12_reckonsWays 86 = .ok (.iaload, 1) := by decide +kernel
theorem dX12_reckonsWays_87 : decode cX12_reckonsWays 87 = .ok (.iastore, 1) := by decide +kernel
theorem dX12_reckonsWays_88 : decode cX12_reckonsWays 88 = .ok (.aload_n 0, 1) := by decide +kernel
theorem dX12_reckonsWays_89 : decode cX12_reckonsWays 89 = .ok (.getfield 184, 3) := by decide +kernel
theorem dX12_reckonsWays_92 : decode cX12_reckonsWays 92 = .ok (.iload_n 1, 1) := by decide +kernel
theorem dX12_reckonsWays_93 : decode cX12_reckonsWays 93 = .ok (.dup2, 1) := by decide +kernel
theorem dX12_reckonsWays_94 : decode cX12_reckonsWays 94 = .ok (.laload, 1) := by decide +kernel
theorem dX12_reckonsWays_95 : decode cX12_reckonsWays 95 = .ok (.aload_n 0, 1) := by decide +kernel
theorem dX12_reckonsWays_96 : decode cX12_reckonsWays 96 = .ok (.getfield 184, 3) := by decide +kernel
theorem dX12_reckonsWays_99 : decode cX12_reckonsWays 99 = .ok (.iload_n 3, 1) := by decide +kernel
theorem dX12_reckonsWays_100 : decode cX12_reckonsWays 100 = .ok (.laload, 1) := by decide +kernel
theorem dX12_reckonsWays_101 : decode cX12_reckonsWays 101 = .ok (.ladd, 1) := by decide +kernel
theorem dX12_reckonsWays_102 : decode cX12_reckonsWays 102 = .ok (.lastore, 1) := by decide +kernel
theorem dX12_reckonsWays_103 : decode cX12_reckonsWays 103 = .ok (.iinc 2 1, 3) := by decide +kernel
theorem dX12_reckonsWays_106 : decode cX12_reckonsWays 106 = .ok (.goto (-104), 3) := by decide +kernel
theorem dX12_reckonsWays_109 : decode cX12_reckonsWays 109 = .ok (.return_, 1) := by decide +kernel
abbrev rm_f_X12_reckonsWays : Room := { frames := 1, cells := 0, slots := 0, locals := 23 }
def f_X12_reckonsWays_L2 (N : Nat) (K4 : (St → Option (St))) (y1 : Int) : Nat → Int → St → Option (St)
  | 0, _, _ => none
  | n9 + 1, x2, t3 =>
    lt1 (t3.1 200 98) fun v5 =>
    cmpI x2 v5 (if x2 < v5 then (bdI (f_X12_isOnWay N y1 x2 t3) fun v7 t6 =>
    jn1 (fun (t8 : St) => f_X12_reckonsWays_L2 N K4 y1 n9 (x2 + 1) t8) fun J9 =>
    cmpI v7 0 (if v7 = 0 then (J9 t6)
    else (ixI ((32 * y1) + x2) 64000 (lt1 (t6.1 94 ((32 * y1) + x2).toNat) fun v10 =>
    ixI v10 2000 (lt1 (t6.1 96 v10.toNat) fun v11 =>
    ixI x2 32 (lt1 (t6.1 97 x2.toNat) fun v12 =>
    ixI y1 2000 (lt1 (t6.2 95 y1.toNat) fun v13 =>
    jn1 (fun (j14 : Int) (t15 : St) => ixI y1 2000 (lt1 (pI t15 96 y1.toNat j14) fun t17 =>
    ixI y1 2000 (lt1 (t17.2 95 y1.toNat) fun v18 =>
    ixI v10 2000 (lt1 (t17.2 95 v10.toNat) fun v19 =>
    ixI y1 2000 (lt1 (pL t17 95 y1.toNat (v18 + v19)) fun t20 =>
    J9 t20))))) fun J16 =>
    jn1 (fun (t21 : St) => J16 (v11 + v12) t21) fun J22 =>
    (if v13 = (0 : Int64) then (J22 t6)
    else (ixI y1 2000 (lt1 (t6.1 96 y1.toNat) fun v23 =>
    cmpI (v11 + v12) v23 (if (v11 + v12) < v23 then (J22 t6)
    else (ixI y1 2000 (lt1 (t6.1 96 y1.toNat) fun v24 =>
    J16 v24 t6)))))))))))))
    else (K4 t3))
def f_X12_reckonsWays (N : Nat) (a0 : Int) (t : St) : Option (St) :=
    f_X12_reckonsWays_L2 N (fun (t25 : St) => some t25) a0 N 0 t
set_option maxHeartbeats 4000000 in
set_option maxRecDepth 100000 in
theorem t_f_X12_reckonsWays_L2 {p : Program} {l : Launch} {e : Env} {s : State} {m : MethodId} {args : Array Value} {below : List Frame} {meth : Method} {c : Code} {E : cE} {A : Nat → Prop} {r : Nat → Nat} {mc ms : Nat} {z : St} {N : Nat} {K4 : (St → Option (St))} {y1 : Int} (X : gX p s m meth c cX12_reckonsWays 5 none yX12_reckonsWays args E A) (hK4 : ∀ (t9 : St), K4 t9 = some z → gP p l e rm_f_X12_reckonsWays s m args below meth c E A 5 (MQ below ((gqV E (gW E r shM) z) A) args s mc ms A) (gW E r shM) 109 [] [] t9) : ∀ (n9 : Nat) (x2 : Int) (t3 : St), f_X12_reckonsWays_L2 N K4 y1 n9 x2 t3 = some z → gP p l e rm_f_X12_reckonsWays s m args below meth c E A 5 (MQ below ((gqV E (gW E r shM) z) A) args s mc ms A) (gW E r shM) 2 [(0, .ref (r 200)), (1, iv y1), (2, iv x2)] [] t3 := by
  intro n9
  induction n9 with
  | zero => intro x2 t3 h; cases h
  | succ n9 ih =>
    intro x2 t3 h
    unfold f_X12_reckonsWays_L2 at h
    refine g_iload_n X dX12_reckonsWays_2 2 rfl ?_
    refine g_aload_n X dX12_reckonsWays_3 0 rfl ?_
    refine g_getI X fM_98 rfl dX12_reckonsWays_4 h (fun v5 h => ?_)
    refine g_icmp_ge (tgt := 109) X dX12_reckonsWays_7 (by decide) h (fun h => ?_) (fun h => ?_)
    · exact g_sub (lv' := []) [] rfl (hK4 t3 h)
    · refine g_aload_n X dX12_reckonsWays_10 0 rfl ?_
      refine g_iload_n X dX12_reckonsWays_11 1 rfl ?_
      refine g_iload_n X dX12_reckonsWays_12 2 rfl ?_
      refine g_callI (rest := []) X (fun u9 h9 => cp_X12_isOnWay l E r N y1 x2 t3 u9 h9) yy_X12_isOnWay yi_X12_isOnWay wdM_RX12_668 0 12 (gW_at oM) rfl rfl rfl (Nat.le_of_ble_eq_true rfl) dX12_reckonsWays_13 ⟨by decide, by decide⟩ ⟨rfl, rfl⟩ h (fun v7 t6 h => ?_)
      refine g_join (J := fun jj => ∀ (t8 : St), jj  t8 = some z → gP p l e rm_f_X12_reckonsWays s m args below meth c E A 5 (MQ below ((gqV E (gW E r shM) z) A) args s mc ms A) (gW E r shM) 103 [(0, .ref (r 200)), (1, iv y1), (2, iv x2)] [] t8) h (fun  t8 h => ?_) (fun J9 hJ9 h => ?_)
      · refine g_iinc (lv' := [(2, iv (x2 + 1)), (0, .ref (r 200)), (1, iv y1)]) X dX12_reckonsWays_103 (k := 2) rfl (by decide) rfl ?_
        refine g_goto (tgt := 2) X dX12_reckonsWays_106 (by decide) ?_
        exact g_sub (lv' := [(0, .ref (r 200)), (1, iv y1), (2, iv (x2 + 1))]) [1, 2, 0] rfl (ih (x2 + 1) t8 h)
      refine g_if_ne (tgt := 22) X dX12_reckonsWays_16 (by decide) h (fun h => ?_) (fun h => ?_)
      · refine g_aload_n X dX12_reckonsWays_22 0 rfl ?_
        refine g_getR X fM_94 rfl dX12_reckonsWays_23 ?_
        refine g_bipush X dX12_reckonsWays_26 (by decide) ?_
        refine g_iload_n X dX12_reckonsWays_28 1 rfl ?_
        refine g_imul X dX12_reckonsWays_29 ?_
        refine g_iload_n X dX12_reckonsWays_30 2 rfl ?_
        refine g_iadd X dX12_reckonsWays_31 ?_
        refine g_iald X aM_94 dX12_reckonsWays_32 h (fun v10 h => ?_)
        refine g_istore_n (lv' := [(3, iv v10), (0, .ref (r 200)), (1, iv y1), (2, iv x2)]) X dX12_reckonsWays_33 rfl (by decide) rfl ?_
        refine g_aload_n X dX12_reckonsWays_34 1 rfl ?_
        refine g_getR X fM_96 rfl dX12_reckonsWays_35 ?_
        refine g_iload_n X dX12_reckonsWays_38 0 rfl ?_
        refine g_iald X aM_96 dX12_reckonsWays_39 h (fun v11 h => ?_)
        refine g_aload_n X dX12_reckonsWays_40 1 rfl ?_
        refine g_getR X fM_97 rfl dX12_reckonsWays_41 ?_
        refine g_iload_n X dX12_reckonsWays_44 3 rfl ?_
        refine g_iald X aM_97 dX12_reckonsWays_45 h (fun v12 h => ?_)
        refine g_iadd X dX12_reckonsWays_46 ?_
        refine g_istore (lv' := [(4, iv (v11 + v12)), (3, iv v10), (0, .ref (r 200)), (1, iv y1), (2, iv x2)]) X dX12_reckonsWays_47 (by decide) rfl ?_
        refine g_aload_n X dX12_reckonsWays_49 2 rfl ?_
        refine g_getR X fM_96 rfl dX12_reckonsWays_50 ?_
        refine g_iload_n X dX12_reckonsWays_53 3 rfl ?_
        refine g_aload_n X dX12_reckonsWays_54 2 rfl ?_
        refine g_getR X fM_95 rfl dX12_reckonsWays_55 ?_
        refine g_iload_n X dX12_reckonsWays_58 3 rfl ?_
        refine g_lald X aM_95 dX12_reckonsWays_59 h (fun v13 h => ?_)
        refine g_lconst (v := 0) X dX12_reckonsWays_60 (by decide) ?_
        refine g_join (J := fun jj => ∀ (j14 : Int) (t15 : St), jj j14 t15 = some z → gP p l e rm_f_X12_reckonsWays s m args below meth c E A 5 (MQ below ((gqV E (gW E r shM) z) A) args s mc ms A) (gW E r shM) 87 [(0, .ref (r 200)), (1, iv y1), (2, iv x2), (3, iv v10)] [iv j14, iv y1, .ref (r 96)] t15) h (fun j14 t15 h => ?_) (fun J16 hJ16 h => ?_)
        · refine g_iast X aM_96 dX12_reckonsWays_87 h (fun t17 h => ?_)
          refine g_aload_n X dX12_reckonsWays_88 0 rfl ?_
          refine g_getR X fM_95 rfl dX12_reckonsWays_89 ?_
          refine g_iload_n X dX12_reckonsWays_92 1 rfl ?_
          refine g_dup2 X rfl rfl dX12_reckonsWays_93 ?_
          refine g_lald X aM_95 dX12_reckonsWays_94 h (fun v18 h => ?_)
          refine g_aload_n X dX12_reckonsWays_95 0 rfl ?_
          refine g_getR X fM_95 rfl dX12_reckonsWays_96 ?_
          refine g_iload_n X dX12_reckonsWays_99 3 rfl ?_
          refine g_lald X aM_95 dX12_reckonsWays_100 h (fun v19 h => ?_)
          refine g_ladd X dX12_reckonsWays_101 ?_
          refine g_last X aM_95 dX12_reckonsWays_102 h (fun t20 h => ?_)
          exact g_sub (lv' := [(0, .ref (r 200)), (1, iv y1), (2, iv x2)]) [0, 1, 2] rfl (hJ9 t20 h)
        refine g_join (J := fun jj => ∀ (t21 : St), jj  t21 = some z → gP p l e rm_f_X12_reckonsWays s m args below meth c E A 5 (MQ below ((gqV E (gW E r shM) z) A) args s mc ms A) (gW E r shM) 76 [(0, .ref (r 200)), (1, iv y1), (2, iv x2), (3, iv v10), (4, iv (v11 + v12))] [iv y1, .ref (r 96)] t21) h (fun  t21 h => ?_) (fun J22 hJ22 h => ?_)
        · refine g_iload X dX12_reckonsWays_76 4 rfl ?_
          refine g_goto (tgt := 87) X dX12_reckonsWays_78 (by decide) ?_
          exact g_sub (lv' := [(0, .ref (r 200)), (1, iv y1), (2, iv x2), (3, iv v10)]) [0, 1, 2, 3] rfl (hJ16 (v11 + v12) t21 h)
        refine g_lcmp_eq (tgt := 76) X dX12_reckonsWays_61 dX12_reckonsWays_62 (by decide) h (fun h => ?_) (fun h => ?_)
        · exact g_sub (lv' := [(0, .ref (r 200)), (1, iv y1), (2, iv x2), (3, iv v10), (4, iv (v11 + v12))]) [2, 3, 4, 1, 0] rfl (hJ22 t6 h)
        · refine g_iload X dX12_reckonsWays_65 0 rfl ?_
          refine g_aload_n X dX12_reckonsWays_67 2 rfl ?_
          refine g_getR X fM_96 rfl dX12_reckonsWays_68 ?_
          refine g_iload_n X dX12_reckonsWays_71 3 rfl ?_
          refine g_iald X aM_96 dX12_reckonsWays_72 h (fun v23 h => ?_)
          refine g_icmp_ge (tgt := 81) X dX12_reckonsWays_73 (by decide) h (fun h => ?_) (fun h => ?_)
          · refine g_aload_n X dX12_reckonsWays_81 2 rfl ?_
            refine g_getR X fM_96 rfl dX12_reckonsWays_82 ?_
            refine g_iload_n X dX12_reckonsWays_85 3 rfl ?_
            refine g_iald X aM_96 dX12_reckonsWays_86 h (fun v24 h => ?_)
            exact g_sub (lv' := [(0, .ref (r 200)), (1, iv y1), (2, iv x2), (3, iv v10)]) [2, 3, 4, 1] rfl (hJ16 v24 t6 h)
          · exact g_sub (lv' := [(0, .ref (r 200)), (1, iv y1), (2, iv x2), (3, iv v10), (4, iv (v11 + v12))]) [2, 3, 4, 1, 0] rfl (hJ22 t6 h)
      · refine g_goto (tgt := 103) X dX12_reckonsWays_19 (by decide) ?_
        exact g_sub (lv' := [(0, .ref (r 200)), (1, iv y1), (2, iv x2)]) [0, 1, 2] rfl (hJ9 t6 h)
set_option maxHeartbeats 4000000 in
set_option maxRecDepth 100000 in
theorem b_f_X12_reckonsWays {p : Program} {l : Launch} {e : Env} {s : State} {m : MethodId} {args : Array Value} {below : List Frame} {meth : Method} {c : Code} {E : cE} {A : Nat → Prop} {r : Nat → Nat} {mc ms : Nat} {z : St} {N : Nat} {a0 : Int} {t : St} (X : gX p s m meth c cX12_reckonsWays 5 none yX12_reckonsWays args E A) (h : f_X12_reckonsWays N a0 t = some z) : gP p l e rm_f_X12_reckonsWays s m args below meth c E A 5 (MQ below ((gqV E (gW E r shM) z) A) args s mc ms A) (gW E r shM) 0 [(0, .ref (r 200)), (1, iv a0)] [] t := by
  unfold f_X12_reckonsWays at h
  refine g_iconst X dX12_reckonsWays_0 ?_
  refine g_istore_n (lv' := [(2, iv 0), (0, .ref (r 200)), (1, iv a0)]) X dX12_reckonsWays_1 rfl (by decide) rfl ?_
  refine g_sub (lv' := [(0, .ref (r 200)), (1, iv a0), (2, iv 0)]) [1, 2, 0] rfl (t_f_X12_reckonsWays_L2 X (fun t25 h => ?_) N 0 t h)
  · exact g_vret X h dX12_reckonsWays_109
set_option maxHeartbeats 4000000 in
set_option maxRecDepth 100000 in
theorem cp_X12_reckonsWays (l : Launch) (E : cE) (r : Nat → Nat) (N : Nat) (a0 : Int) (t : St) (z : St) (h : f_X12_reckonsWays N a0 t = some z) : cM l E yX12_reckonsWays cX12_reckonsWays 5 none rm_f_X12_reckonsWays [.ref (r 200), iv a0] (gW E r shM t) (gqV E (gW E r shM) z) := by
  refine g_of (w := gW E r shM) (by decide) (Nat.le_of_ble_eq_true rfl) ?_
  intro p e s m below meth c A X
  exact g_sub (lv' := [(0, .ref (r 200)), (1, iv a0)]) [0, 1] rfl (b_f_X12_reckonsWays X h)
theorem yy_X12_reckonsWays : cY yX12_reckonsWays cX12_reckonsWays 5 none 1 := ⟨wdK_X12_reckonsWays, wdZ_RX12, by decide +kernel⟩
theorem yi_X12_reckonsWays : cYi yX12_reckonsWays := ⟨wdN_X12_reckonsWays, wdS_X12_reckonsWays⟩
theorem dX12_rows_0 : decode cX12_rows 0 = .ok (.aload_n 0, 1) := by decide +kernel
theorem dX12_rows_1 : decode cX12_rows 1 = .ok (.getfield 248, 3) := by decide +kernel
theorem dX12_rows_4 : decode cX12_rows 4 = .ok (.lreturn, 1) := by decide +kernel
abbrev rm_f_X12_rows : Room := { frames := 0, cells := 0, slots := 0, locals := 0 }
def f_X12_rows (N : Nat) (t : St) : Option (Int64 × St) :=
    lt1 (t.2 200 100) fun v1 =>
    some (v1, t)
set_option maxHeartbeats 4000000 in
set_option maxRecDepth 100000 in
theorem b_f_X12_rows {p : Program} {l : Launch} {e : Env} {s : State} {m : MethodId} {args : Array Value} {below : List Frame} {meth : Method} {c : Code} {E : cE} {A : Nat → Prop} {r : Nat → Nat} {mc ms : Nat} {z : Int64 × St} {N : Nat} {t : St} (X : gX p s m meth c cX12_rows 1 (some .long) yX12_rows args E A) (h : f_X12_rows N t = some z) : gP p l e rm_f_X12_rows s m args below meth c E A 1 (MQ below ((gqL E (gW E r shM) z) A) args s mc ms A) (gW E r shM) 0 [(0, .ref (r 200))] [] t := by
  unfold f_X12_rows at h
  refine g_aload_n X dX12_rows_0 0 rfl ?_
  refine g_getL X fM_100 rfl dX12_rows_1 h (fun v1 h => ?_)
  exact g_lret X h dX12_rows_4
set_option maxHeartbeats 4000000 in
set_option maxRecDepth 100000 in
theorem cp_X12_rows (l : Launch) (E : cE) (r : Nat → Nat) (N : Nat) (t : St) (z : Int64 × St) (h : f_X12_rows N t = some z) : cM l E yX12_rows cX12_rows 1 (some .long) rm_f_X12_rows [.ref (r 200)] (gW E r shM t) (gqL E (gW E r shM) z) := by
  refine g_of (w := gW E r shM) (by decide) (Nat.le_of_ble_eq_true rfl) ?_
  intro p e s m below meth c A X
  exact g_sub (lv' := [(0, .ref (r 200))]) [0] rfl (b_f_X12_rows X h)
theorem yy_X12_rows : cY yX12_rows cX12_rows 1 (some .long) 0 := ⟨wdK_X12_rows, wdZ_RX12, by decide +kernel⟩
theorem yi_X12_rows : cYi yX12_rows := ⟨wdN_X12_rows, wdS_X12_rows⟩
theorem dX12_finds_0 : decode cX12_finds 0 = .ok (.lload_n 1, 1) := by decide +kernel
theorem dX12_finds_1 : decode cX12_finds 1 = .ok (.lstore_n 3, 1) := by decide +kernel
theorem dX12_finds_2 : decode cX12_finds 2 = .ok (.iconst 0, 1) := by decide +kernel
theorem dX12_finds_3 : decode cX12_finds 3 = .ok (.istore 5, 2) := by decide +kernel
theorem dX12_finds_5 : decode cX12_finds 5 = .ok (.iconst 0, 1) := by decide +kernel
theorem dX12_finds_6 : decode cX12_finds 6 = .ok (.istore 6, 2) := by decide +kernel
theorem dX12_finds_8 : decode cX12_finds 8 = .ok (.iload 6, 2) := by decide +kernel
theorem dX12_finds_10 : decode cX12_finds 10 = .ok (.aload_n 0, 1) := by decide +kernel
theorem dX12_finds_11 : decode cX12_finds 11 = .ok (.getfield 656, 3) := by decide +kernel
theorem dX12_finds_14 : decode cX12_finds 14 = .ok (.if_icmp .ge 108, 3) := by decide +kernel
theorem dX12_finds_17 : decode cX12_finds 17 = .ok (.iconst 0, 1) := by decide +kernel
theorem dX12_finds_18 : decode cX12_finds 18 = .ok (.istore 7, 2) := by decide +kernel
theorem dX12_finds_20 : decode cX12_finds 20 = .ok (.aload_n 0, 1) := by decide +kernel
theorem dX12_finds_21 : decode cX12_finds 21 = .ok (.iload 5, 2) := by decide +kernel
theorem dX12_finds_23 : decode cX12_finds 23 = .ok (.iload 7, 2) := by decide +kernel
theorem dX12_finds_25 : decode cX12_finds 25 = .ok (.invokevirtual 668, 3) := by decide +kernel
theorem dX12_finds_28 : decode cX12_finds 28 = .ok (.ifCond .eq 26, 3) := by decide +kernel
theorem dX12_finds_31 : decode cX12_finds 31 = .ok (.lload_n 3, 1) := by decide +kernel
theorem dX12_finds_32 : decode cX12_finds 32 = .ok (.aload_n 0, 1) := by decide +kernel
theorem dX12_finds_33 : decode cX12_finds 33 = .ok (.getfield 184, 3) := by decide +kernel
theorem dX12_finds_36 : decode cX12_finds 36 = .ok (.aload_n 0, 1) := by decide +kernel
theorem dX12_finds_37 : decode cX12_finds 37 = .ok (.getfield 181, 3) := by decide +kernel
theorem dX12_finds_40 : decode cX12_finds 40 = .ok (.bipush 32, 2) := by decide +kernel
theorem dX12_finds_42 : decode cX12_finds 42 = .ok (.iload 5, 2) := by decide +kernel
theorem dX12_finds_44 : decode cX12_finds 44 = .ok (.imul, 1) := by decide +kernel
theorem dX12_finds_45 : decode cX12_finds 45 = .ok (.iload 7, 2) := by decide +kernel
theorem dX12_finds_47 : decode cX12_finds 47 = .ok (.iadd, 1) := by decide +kernel
theorem dX12_finds_48 : decode cX12_finds 48 = .ok (.iaload, 1) := by decide +kernel
theorem dX12_finds_49 : decode cX12_finds 49 = .ok (.laload, 1) := by decide +kernel
theorem dX12_finds_50 : decode cX12_finds 50 = .ok (.lcmp, 1) := by decide +kernel
theorem dX12_finds_51 : decode cX12_finds 51 = .ok (.ifCond .lt 41, 3) := by decide +kernel
theorem dX12_finds_54 : decode cX12_finds 54 = .ok (.aload_n 0, 1) := by decide +kernel
theorem dX12_finds_55 : decode cX12_finds 55 = .ok (.iload 5, 2) := by decide +kernel
theorem dX12_finds_57 : decode cX12_finds 57 = .ok (.iload 7, 2) := by decide +kernel
theorem dX12_finds_59 : decode cX12_finds 59 = .ok (.invokevirtual 668, 3) := by decide +kernel
theorem dX12_finds_62 : decode cX12_finds 62 = .ok (.ifCond .eq 24, 3) := by decide +kernel
theorem dX12_finds_65 : decode cX12_finds 65 = .ok (.lload_n 3, 1) := by decide +kernel
theorem dX12_finds_66 : decode cX12_finds 66 = .ok (.aload_n 0, 1) := by decide +kernel
theorem dX12_finds_67 : decode cX12_finds 67 = .ok (.getfield 184, 3) := by decide +kernel
theorem dX12_finds_70 : decode cX12_finds 70 = .ok (.aload_n 0, 1) := by decide +kernel
theorem dX12_finds_71 : decode cX12_finds 71 = .ok (.getfield 181, 3) := by decide +kernel
theorem dX12_finds_74 : decode cX12_finds 74 = .ok (.bipush 32, 2) := by decide +kernel
theorem dX12_finds_76 : decode cX12_finds 76 = .ok (.iload 5, 2) := by decide +kernel
theorem dX12_finds_78 : decode cX12_finds 78 = .ok (.imul, 1) := by decide +kernel
theorem dX12_finds_79 : decode cX12_finds 79 = .ok (.iload 7, 2) := by decide +kernel
theorem dX12_finds_81 : decode cX12_finds 81 = .ok (.iadd, 1) := by decide +kernel
theorem dX12_finds_82 : decode cX12_finds 82 = .ok (.iaload, 1) := by decide +kernel
theorem dX12_finds_83 : decode cX12_finds 83 = .ok (.laload, 1) := by decide +kernel
theorem dX12_finds_84 : decode cX12_finds 84 = .ok (.lsub, 1) := by decide +kernel
theorem dX12_finds_85 : decode cX12_finds 85 = .ok (.lstore_n 3, 1) := by decide +kernel
theorem dX12_finds_86 : decode cX12_finds 86 = .ok (.iinc 7 1, 3) := by decide +kernel
theorem dX12_finds_89 : decode cX12_finds 89 = .ok (.goto (-69), 3) := by decide +kernel
theorem dX12_finds_92 : decode cX12_finds 92 = .ok (.aload_n 0, 1) := by decide +kernel
theorem dX12_finds_93 : decode cX12_finds 93 = .ok (.getfield 199, 3) := by decide +kernel
theorem dX12_finds_96 : decode cX12_finds 96 = .ok (.iload 6, 2) := by decide +kernel
theorem dX12_finds_98 : decode cX12_finds 98 = .ok (.iload 7, 2) := by decide +kernel
theorem dX12_finds_100 : decode cX12_finds 100 = .ok (.iastore, 1) := by decide +kernel
theorem dX12_finds_101 : decode cX12_finds 101 = .ok (.aload_n 0, 1) := by decide +kernel
theorem dX12_finds_102 : decode cX12_finds 102 = .ok (.getfield 181, 3) := by decide +kernel
theorem dX12_finds_105 : decode cX12_finds 105 = .ok (.bipush 32, 2) := by decide +kernel
theorem dX12_finds_107 : decode cX12_finds 107 = .ok (.iload 5, 2) := by decide +kernel
theorem dX12_finds_109 : decode cX12_finds 109 = .ok (.imul, 1) := by decide +kernel
theorem dX12_finds_110 : decode cX12_finds 110 = .ok (.iload 7, 2) := by decide +kernel
theorem dX12_finds_112 : decode cX12_finds 112 = .ok (.iadd, 1) := by decide +kernel
theorem dX12_finds_113 : decode cX12_finds 113 = .ok (.iaload, 1) := by decide +kernel
theorem dX12_finds_114 : decode cX12_finds 114 = .ok (.istore 5, 2) := by decide +kernel
theorem dX12_finds_116 : decode cX12_finds 116 = .ok (.iinc 6 1, 3) := by decide +kernel
theorem dX12_finds_119 : decode cX12_finds 119 = .ok (.goto (-111), 3) := by decide +kernel
theorem dX12_finds_122 : decode cX12_finds 122 = .ok (.aload_n 0, 1) := by decide +kernel
theorem dX12_finds_123 : decode cX12_finds 123 = .ok (.aload_n 0, 1) := by decide +kernel
theorem dX12_finds_124 : decode cX12_finds 124 = .ok (.getfield 656, 3) := by decide +kernel
theorem dX12_finds_127 : decode cX12_finds 127 = .ok (.putfield 196, 3) := by decide +kernel
theorem dX12_finds_130 : decode cX12_finds 130 = .ok (.aload_n 0, 1) := by decide +kernel
theorem dX12_finds_131 : decode cX12_finds 131 = .ok (.iconst 0, 1) := by decide +kernel
theorem dX12_finds_132 : decode cX12_finds 132 = .ok (.putfield 671, 3) := by decide +kernel
theorem dX12_finds_135 : decode cX12_finds 135 = .ok (.return_, 1) := by decide +kernel
abbrev rm_f_X12_finds : Room := { frames := 1, cells := 0, slots := 0, locals := 23 }
def f_X12_finds_L20 (N : Nat) (K12 : (Int64 → Int → St → Option (St))) (y8 : Int) : Nat → Int64 → Int → St → Option (St)
  | 0, _, _, _ => none
  | n9 + 1, x7, x10, t11 =>
    bdI (f_X12_isOnWay N y8 x10 t11) fun v14 t13 =>
    jn1 (fun (t15 : St) => bdI (f_X12_isOnWay N y8 x10 t15) fun v18 t17 =>
    jn1 (fun (j19 : Int64) (t20 : St) => f_X12_finds_L20 N K12 y8 n9 j19 (x10 + 1) t20) fun J21 =>
    cmpI v18 0 (if v18 = 0 then (J21 x7 t17)
    else (ixI ((32 * y8) + x10) 64000 (lt1 (t17.1 94 ((32 * y8) + x10).toNat) fun v22 =>
    ixI v22 2000 (lt1 (t17.2 95 v22.toNat) fun v23 =>
    J21 (x7 - v23) t17))))) fun J16 =>
    cmpI v14 0 (if v14 = 0 then (J16 t13)
    else (ixI ((32 * y8) + x10) 64000 (lt1 (t13.1 94 ((32 * y8) + x10).toNat) fun v24 =>
    ixI v24 2000 (lt1 (t13.2 95 v24.toNat) fun v25 =>
    (if x7 < v25 then (K12 x7 x10 t13)
    else (J16 t13))))))
def f_X12_finds_L8 (N : Nat) (K5 : (St → Option (St))) : Nat → Int64 → Int → Int → St → Option (St)
  | 0, _, _, _, _ => none
  | n9 + 1, x1, x2, x3, t4 =>
    lt1 (t4.1 200 91) fun v6 =>
    cmpI x3 v6 (if x3 < v6 then (f_X12_finds_L20 N (fun (k26 : Int64) (k27 : Int) (t28 : St) => ixI x3 12 (lt1 (pI t28 103 x3.toNat k27) fun t29 =>
    ixI ((32 * x2) + k27) 64000 (lt1 (t29.1 94 ((32 * x2) + k27).toNat) fun v30 =>
    f_X12_finds_L8 N K5 n9 k26 v30 (x3 + 1) t29))) x2 N x1 0 t4)
    else (K5 t4))
def f_X12_finds (N : Nat) (a0 : Int64) (t : St) : Option (St) :=
    f_X12_finds_L8 N (fun (t31 : St) => lt1 (t31.1 200 91) fun v32 =>
    lt1 (pI t31 200 101 v32) fun t33 =>
    lt1 (pI t33 200 102 0) fun t34 =>
    some t34) N a0 0 0 t
set_option maxHeartbeats 4000000 in
set_option maxRecDepth 100000 in
theorem t_f_X12_finds_L20 {p : Program} {l : Launch} {e : Env} {s : State} {m : MethodId} {args : Array Value} {below : List Frame} {meth : Method} {c : Code} {E : cE} {A : Nat → Prop} {r : Nat → Nat} {mc ms : Nat} {z : St} {N : Nat} {K12 : (Int64 → Int → St → Option (St))} {y8 : Int} {y9 : Int} (X : gX p s m meth c cX12_finds 8 none yX12_finds args E A) (hK12 : ∀ (q3 : Int64) (q7 : Int) (t9 : St), K12 q3 q7 t9 = some z → gP p l e rm_f_X12_finds s m args below meth c E A 8 (MQ below ((gqV E (gW E r shM) z) A) args s mc ms A) (gW E r shM) 92 [(0, .ref (r 200)), (3, .long q3), (5, iv y8), (6, iv y9), (7, iv q7)] [] t9) : ∀ (n9 : Nat) (x7 : Int64) (x10 : Int) (t11 : St), f_X12_finds_L20 N K12 y8 n9 x7 x10 t11 = some z → gP p l e rm_f_X12_finds s m args below meth c E A 8 (MQ below ((gqV E (gW E r shM) z) A) args s mc ms A) (gW E r shM) 20 [(0, .ref (r 200)), (3, .long x7), (5, iv y8), (6, iv y9), (7, iv x10)] [] t11 := by
  intro n9
  induction n9 with
  | zero => intro x7 x10 t11 h; cases h
  | succ n9 ih =>
    intro x7 x10 t11 h
    unfold f_X12_finds_L20 at h
    refine g_aload_n X dX12_finds_20 0 rfl ?_
    refine g_iload X dX12_finds_21 2 rfl ?_
    refine g_iload X dX12_finds_23 4 rfl ?_
    refine g_callI (rest := []) X (fun u9 h9 => cp_X12_isOnWay l E r N y8 x10 t11 u9 h9) yy_X12_isOnWay yi_X12_isOnWay wdM_RX12_668 0 12 (gW_at oM) rfl rfl rfl (Nat.le_of_ble_eq_true rfl) dX12_finds_25 ⟨by decide, by decide⟩ ⟨rfl, rfl⟩ h (fun v14 t13 h => ?_)
    refine g_join (J := fun jj => ∀ (t15 : St), jj  t15 = some z → gP p l e rm_f_X12_finds s m args below meth c E A 8 (MQ below ((gqV E (gW E r shM) z) A) args s mc ms A) (gW E r shM) 54 [(0, .ref (r 200)), (3, .long x7), (5, iv y8), (6, iv y9), (7, iv x10)] [] t15) h (fun  t15 h => ?_) (fun J16 hJ16 h => ?_)
    · refine g_aload_n X dX12_finds_54 0 rfl ?_
      refine g_iload X dX12_finds_55 2 rfl ?_
      refine g_iload X dX12_finds_57 4 rfl ?_
      refine g_callI (rest := []) X (fun u9 h9 => cp_X12_isOnWay l E r N y8 x10 t15 u9 h9) yy_X12_isOnWay yi_X12_isOnWay wdM_RX12_668 0 12 (gW_at oM) rfl rfl rfl (Nat.le_of_ble_eq_true rfl) dX12_finds_59 ⟨by decide, by decide⟩ ⟨rfl, rfl⟩ h (fun v18 t17 h => ?_)
      refine g_join (J := fun jj => ∀ (j19 : Int64) (t20 : St), jj j19 t20 = some z → gP p l e rm_f_X12_finds s m args below meth c E A 8 (MQ below ((gqV E (gW E r shM) z) A) args s mc ms A) (gW E r shM) 86 [(0, .ref (r 200)), (3, .long j19), (5, iv y8), (6, iv y9), (7, iv x10)] [] t20) h (fun j19 t20 h => ?_) (fun J21 hJ21 h => ?_)
      · refine g_iinc (lv' := [(7, iv (x10 + 1)), (0, .ref (r 200)), (3, .long j19), (5, iv y8), (6, iv y9)]) X dX12_finds_86 (k := 4) rfl (by decide) rfl ?_
        refine g_goto (tgt := 20) X dX12_finds_89 (by decide) ?_
        exact g_sub (lv' := [(0, .ref (r 200)), (3, .long j19), (5, iv y8), (6, iv y9), (7, iv (x10 + 1))]) [1, 2, 3, 4, 0] rfl (ih j19 (x10 + 1) t20 h)
      refine g_if_eq (tgt := 86) X dX12_finds_62 (by decide) h (fun h => ?_) (fun h => ?_)
      · exact g_sub (lv' := [(0, .ref (r 200)), (3, .long x7), (5, iv y8), (6, iv y9), (7, iv x10)]) [0, 1, 2, 3, 4] rfl (hJ21 x7 t17 h)
      · refine g_lload_n X dX12_finds_65 1 rfl ?_
        refine g_aload_n X dX12_finds_66 0 rfl ?_
        refine g_getR X fM_95 rfl dX12_finds_67 ?_
        refine g_aload_n X dX12_finds_70 0 rfl ?_
        refine g_getR X fM_94 rfl dX12_finds_71 ?_
        refine g_bipush X dX12_finds_74 (by decide) ?_
        refine g_iload X dX12_finds_76 2 rfl ?_
        refine g_imul X dX12_finds_78 ?_
        refine g_iload X dX12_finds_79 4 rfl ?_
        refine g_iadd X dX12_finds_81 ?_
        refine g_iald X aM_94 dX12_finds_82 h (fun v22 h => ?_)
        refine g_lald X aM_95 dX12_finds_83 h (fun v23 h => ?_)
        refine g_lsub X dX12_finds_84 ?_
        refine g_lstore_n (lv' := [(3, .long (x7 - v23)), (0, .ref (r 200)), (5, iv y8), (6, iv y9), (7, iv x10)]) X dX12_finds_85 rfl (by decide) rfl ?_
        exact g_sub (lv' := [(0, .ref (r 200)), (3, .long (x7 - v23)), (5, iv y8), (6, iv y9), (7, iv x10)]) [1, 0, 2, 3, 4] rfl (hJ21 (x7 - v23) t17 h)
    refine g_if_eq (tgt := 54) X dX12_finds_28 (by decide) h (fun h => ?_) (fun h => ?_)
    · exact g_sub (lv' := [(0, .ref (r 200)), (3, .long x7), (5, iv y8), (6, iv y9), (7, iv x10)]) [0, 1, 2, 3, 4] rfl (hJ16 t13 h)
    · refine g_lload_n X dX12_finds_31 1 rfl ?_
      refine g_aload_n X dX12_finds_32 0 rfl ?_
      refine g_getR X fM_95 rfl dX12_finds_33 ?_
      refine g_aload_n X dX12_finds_36 0 rfl ?_
      refine g_getR X fM_94 rfl dX12_finds_37 ?_
      refine g_bipush X dX12_finds_40 (by decide) ?_
      refine g_iload X dX12_finds_42 2 rfl ?_
      refine g_imul X dX12_finds_44 ?_
      refine g_iload X dX12_finds_45 4 rfl ?_
      refine g_iadd X dX12_finds_47 ?_
      refine g_iald X aM_94 dX12_finds_48 h (fun v24 h => ?_)
      refine g_lald X aM_95 dX12_finds_49 h (fun v25 h => ?_)
      refine g_lcmp_lt (tgt := 92) X dX12_finds_50 dX12_finds_51 (by decide) h (fun h => ?_) (fun h => ?_)
      · exact g_sub (lv' := [(0, .ref (r 200)), (3, .long x7), (5, iv y8), (6, iv y9), (7, iv x10)]) [0, 1, 2, 3, 4] rfl (hK12 x7 x10 t13 h)
      · exact g_sub (lv' := [(0, .ref (r 200)), (3, .long x7), (5, iv y8), (6, iv y9), (7, iv x10)]) [0, 1, 2, 3, 4] rfl (hJ16 t13 h)
set_option maxHeartbeats 4000000 in
set_option maxRecDepth 100000 in
theorem t_f_X12_finds_L8 {p : Program} {l : Launch} {e : Env} {s : State} {m : MethodId} {args : Array Value} {below : List Frame} {meth : Method} {c : Code} {E : cE} {A : Nat → Prop} {r : Nat → Nat} {mc ms : Nat} {z : St} {N : Nat} {K5 : (St → Option (St))} (X : gX p s m meth c cX12_finds 8 none yX12_finds args E A) (hK5 : ∀ (t9 : St), K5 t9 = some z → gP p l e rm_f_X12_finds s m args below meth c E A 8 (MQ below ((gqV E (gW E r shM) z) A) args s mc ms A) (gW E r shM) 122 [(0, .ref (r 200))] [] t9) : ∀ (n9 : Nat) (x1 : Int64) (x2 : Int) (x3 : Int) (t4 : St), f_X12_finds_L8 N K5 n9 x1 x2 x3 t4 = some z → gP p l e rm_f_X12_finds s m args below meth c E A 8 (MQ below ((gqV E (gW E r shM) z) A) args s mc ms A) (gW E r shM) 8 [(0, .ref (r 200)), (3, .long x1), (5, iv x2), (6, iv x3)] [] t4 := by
  intro n9
  induction n9 with
  | zero => intro x1 x2 x3 t4 h; cases h
  | succ n9 ih =>
    intro x1 x2 x3 t4 h
    unfold f_X12_finds_L8 at h
    refine g_iload X dX12_finds_8 3 rfl ?_
    refine g_aload_n X dX12_finds_10 0 rfl ?_
    refine g_getI X fM_91 rfl dX12_finds_11 h (fun v6 h => ?_)
    refine g_icmp_ge (tgt := 122) X dX12_finds_14 (by decide) h (fun h => ?_) (fun h => ?_)
    · exact g_sub (lv' := [(0, .ref (r 200))]) [0] rfl (hK5 t4 h)
    · refine g_iconst X dX12_finds_17 ?_
      refine g_istore (lv' := [(7, iv 0), (0, .ref (r 200)), (3, .long x1), (5, iv x2), (6, iv x3)]) X dX12_finds_18 (by decide) rfl ?_
      refine g_sub (lv' := [(0, .ref (r 200)), (3, .long x1), (5, iv x2), (6, iv x3), (7, iv 0)]) [1, 2, 3, 4, 0] rfl (t_f_X12_finds_L20 X (fun k26 k27 t28 h => ?_) N x1 0 t4 h)
      · refine g_aload_n X dX12_finds_92 0 rfl ?_
        refine g_getR X fM_103 rfl dX12_finds_93 ?_
        refine g_iload X dX12_finds_96 3 rfl ?_
        refine g_iload X dX12_finds_98 4 rfl ?_
        refine g_iast X aM_103 dX12_finds_100 h (fun t29 h => ?_)
        refine g_aload_n X dX12_finds_101 0 rfl ?_
        refine g_getR X fM_94 rfl dX12_finds_102 ?_
        refine g_bipush X dX12_finds_105 (by decide) ?_
        refine g_iload X dX12_finds_107 2 rfl ?_
        refine g_imul X dX12_finds_109 ?_
        refine g_iload X dX12_finds_110 4 rfl ?_
        refine g_iadd X dX12_finds_112 ?_
        refine g_iald X aM_94 dX12_finds_113 h (fun v30 h => ?_)
        refine g_istore (lv' := [(5, iv v30), (0, .ref (r 200)), (3, .long k26), (6, iv x3), (7, iv k27)]) X dX12_finds_114 (by decide) rfl ?_
        refine g_iinc (lv' := [(6, iv (x3 + 1)), (5, iv v30), (0, .ref (r 200)), (3, .long k26), (7, iv k27)]) X dX12_finds_116 (k := 3) rfl (by decide) rfl ?_
        refine g_goto (tgt := 8) X dX12_finds_119 (by decide) ?_
        exact g_sub (lv' := [(0, .ref (r 200)), (3, .long k26), (5, iv v30), (6, iv (x3 + 1))]) [2, 3, 1, 0] rfl (ih k26 v30 (x3 + 1) t29 h)
set_option maxHeartbeats 4000000 in
set_option maxRecDepth 100000 in
theorem b_f_X12_finds {p : Program} {l : Launch} {e : Env} {s : State} {m : MethodId} {args : Array Value} {below : List Frame} {meth : Method} {c : Code} {E : cE} {A : Nat → Prop} {r : Nat → Nat} {mc ms : Nat} {z : St} {N : Nat} {a0 : Int64} {t : St} (X : gX p s m meth c cX12_finds 8 none yX12_finds args E A) (h : f_X12_finds N a0 t = some z) : gP p l e rm_f_X12_finds s m args below meth c E A 8 (MQ below ((gqV E (gW E r shM) z) A) args s mc ms A) (gW E r shM) 0 [(0, .ref (r 200)), (1, .long a0)] [] t := by
  unfold f_X12_finds at h
  refine g_lload_n X dX12_finds_0 1 rfl ?_
  refine g_lstore_n (lv' := [(3, .long a0), (0, .ref (r 200)), (1, .long a0)]) X dX12_finds_1 rfl (by decide) rfl ?_
  refine g_iconst X dX12_finds_2 ?_
  refine g_istore (lv' := [(5, iv 0), (3, .long a0), (0, .ref (r 200)), (1, .long a0)]) X dX12_finds_3 (by decide) rfl ?_
  refine g_iconst X dX12_finds_5 ?_
  refine g_istore (lv' := [(6, iv 0), (5, iv 0), (3, .long a0), (0, .ref (r 200)), (1, .long a0)]) X dX12_finds_6 (by decide) rfl ?_
  refine g_sub (lv' := [(0, .ref (r 200)), (3, .long a0), (5, iv 0), (6, iv 0)]) [3, 2, 1, 0] rfl (t_f_X12_finds_L8 X (fun t31 h => ?_) N a0 0 0 t h)
  · refine g_aload_n X dX12_finds_122 0 rfl ?_
    refine g_aload_n X dX12_finds_123 0 rfl ?_
    refine g_getI X fM_91 rfl dX12_finds_124 h (fun v32 h => ?_)
    refine g_putI X fM_101w rfl dX12_finds_127 h (fun t33 h => ?_)
    refine g_aload_n X dX12_finds_130 0 rfl ?_
    refine g_iconst X dX12_finds_131 ?_
    refine g_putI X fM_102w rfl dX12_finds_132 h (fun t34 h => ?_)
    exact g_vret X h dX12_finds_135
set_option maxHeartbeats 4000000 in
set_option maxRecDepth 100000 in
theorem cp_X12_finds (l : Launch) (E : cE) (r : Nat → Nat) (N : Nat) (a0 : Int64) (t : St) (z : St) (h : f_X12_finds N a0 t = some z) : cM l E yX12_finds cX12_finds 8 none rm_f_X12_finds [.ref (r 200), .long a0] (gW E r shM t) (gqV E (gW E r shM) z) := by
  refine g_of (w := gW E r shM) (by decide) (Nat.le_of_ble_eq_true rfl) ?_
  intro p e s m below meth c A X
  exact g_sub (lv' := [(0, .ref (r 200)), (1, .long a0)]) [0, 1] rfl (b_f_X12_finds X h)
theorem yy_X12_finds : cY yX12_finds cX12_finds 8 none 1 := ⟨wdK_X12_finds, wdZ_RX12, by decide +kernel⟩
theorem yi_X12_finds : cYi yX12_finds := ⟨wdN_X12_finds, wdS_X12_finds⟩
theorem dX12_row_0 : decode cX12_row 0 = .ok (.iload_n 1, 1) := by decide +kernel
theorem dX12_row_1 : decode cX12_row 1 = .ok (.ifCond .lt 13, 3) := by decide +kernel
theorem dX12_row_4 : decode cX12_row 4 = .ok (.iload_n 1, 1) := by decide +kernel
theorem dX12_row_5 : decode cX12_row 5 = .ok (.i2l, 1) := by decide +kernel
theorem dX12_row_6 : decode cX12_row 6 = .ok (.aload_n 0, 1) := by decide +kernel
theorem dX12_row_7 : decode cX12_row 7 = .ok (.getfield 248, 3) := by decide +kernel
theorem dX12_row_10 : decode cX12_row 10 = .ok (.lcmp, 1) := by decide +kernel
theorem dX12_row_11 : decode cX12_row 11 = .ok (.ifCond .lt 5, 3) := by decide +kernel
theorem dX12_row_14 : decode cX12_row 14 = .ok (.iconst 0, 1) := by decide +kernel
theorem dX12_row_15 : decode cX12_row 15 = .ok (.ireturn, 1) := by decide +kernel
theorem dX12_row_16 : decode cX12_row 16 = .ok (.aload_n 0, 1) := by decide +kernel
theorem dX12_row_17 : decode cX12_row 17 = .ok (.iload_n 1, 1) := by decide +kernel
theorem dX12_row_18 : decode cX12_row 18 = .ok (.i2l, 1) := by decide +kernel
theorem dX12_row_19 : decode cX12_row 19 = .ok (.invokevirtual 674, 3) := by decide +kernel
theorem dX12_row_22 : decode cX12_row 22 = .ok (.iconst 1, 1) := by decide +kernel
theorem dX12_row_23 : decode cX12_row 23 = .ok (.ireturn, 1) := by decide +kernel
abbrev rm_f_X12_row : Room := { frames := 2, cells := 0, slots := 0, locals := 50 }
def f_X12_row (N : Nat) (a0 : Int) (t : St) : Option (Int × St) :=
    cmpI a0 0 (if a0 < 0 then (boI 0 (some (0, t)))
    else (rnI a0 (
    lt1 (t.2 200 100) fun v1 =>
    (if (Int64.ofInt a0) < v1 then (rnI a0 (
    bdV (f_X12_finds N (Int64.ofInt a0) t) fun t2 =>
    boI 1 (some (1, t2))))
    else (boI 0 (some (0, t)))))))
set_option maxHeartbeats 4000000 in
set_option maxRecDepth 100000 in
theorem b_f_X12_row {p : Program} {l : Launch} {e : Env} {s : State} {m : MethodId} {args : Array Value} {below : List Frame} {meth : Method} {c : Code} {E : cE} {A : Nat → Prop} {r : Nat → Nat} {mc ms : Nat} {z : Int × St} {N : Nat} {a0 : Int} {t : St} (X : gX p s m meth c cX12_row 2 (some .boolean) yX12_row args E A) (h : f_X12_row N a0 t = some z) : gP p l e rm_f_X12_row s m args below meth c E A 2 (MQ below ((gqI E (gW E r shM) z) A) args s mc ms A) (gW E r shM) 0 [(0, .ref (r 200)), (1, iv a0)] [] t := by
  unfold f_X12_row at h
  refine g_iload_n X dX12_row_0 1 rfl ?_
  refine g_if_lt (tgt := 14) X dX12_row_1 (by decide) h (fun h => ?_) (fun h => ?_)
  · refine g_iconst X dX12_row_14 ?_
    exact g_zret X h dX12_row_15
  · refine g_iload_n X dX12_row_4 1 rfl ?_
    refine g_i2l X dX12_row_5 h (fun h => ?_)
    refine g_aload_n X dX12_row_6 0 rfl ?_
    refine g_getL X fM_100 rfl dX12_row_7 h (fun v1 h => ?_)
    refine g_lcmp_lt (tgt := 16) X dX12_row_10 dX12_row_11 (by decide) h (fun h => ?_) (fun h => ?_)
    · refine g_aload_n X dX12_row_16 0 rfl ?_
      refine g_iload_n X dX12_row_17 1 rfl ?_
      refine g_i2l X dX12_row_18 h (fun h => ?_)
      refine g_callV (rest := []) X (fun u9 h9 => cp_X12_finds l E r N (Int64.ofInt a0) t u9 h9) yy_X12_finds yi_X12_finds wdM_RX12_674 0 12 (gW_at oM) rfl rfl rfl (Nat.le_of_ble_eq_true rfl) dX12_row_19 ⟨by decide, by decide⟩ ⟨rfl, rfl⟩ h (fun t2 h => ?_)
      refine g_iconst X dX12_row_22 ?_
      exact g_zret X h dX12_row_23
    · refine g_iconst X dX12_row_14 ?_
      exact g_zret X h dX12_row_15
set_option maxHeartbeats 4000000 in
set_option maxRecDepth 100000 in
theorem cp_X12_row (l : Launch) (E : cE) (r : Nat → Nat) (N : Nat) (a0 : Int) (t : St) (z : Int × St) (h : f_X12_row N a0 t = some z) : cM l E yX12_row cX12_row 2 (some .boolean) rm_f_X12_row [.ref (r 200), iv a0] (gW E r shM t) (gqI E (gW E r shM) z) := by
  refine g_of (w := gW E r shM) (by decide) (Nat.le_of_ble_eq_true rfl) ?_
  intro p e s m below meth c A X
  exact g_sub (lv' := [(0, .ref (r 200)), (1, iv a0)]) [0, 1] rfl (b_f_X12_row X h)
theorem yy_X12_row : cY yX12_row cX12_row 2 (some .boolean) 1 := ⟨wdK_X12_row, wdZ_RX12, by decide +kernel⟩
theorem yi_X12_row : cYi yX12_row := ⟨wdN_X12_row, wdS_X12_row⟩
theorem dX12_draw_0 : decode cX12_draw 0 = .ok (.aload_n 0, 1) := by decide +kernel
theorem dX12_draw_1 : decode cX12_draw 1 = .ok (.getfield 248, 3) := by decide +kernel
theorem dX12_draw_4 : decode cX12_draw 4 = .ok (.lconst 0, 1) := by decide +kernel
theorem dX12_draw_5 : decode cX12_draw 5 = .ok (.lcmp, 1) := by decide +kernel
theorem dX12_draw_6 : decode cX12_draw 6 = .ok (.ifCond .ne 5, 3) := by decide +kernel
theorem dX12_draw_9 : decode cX12_draw 9 = .ok (.iconst 0, 1) := by decide +kernel
theorem dX12_draw_10 : decode cX12_draw 10 = .ok (.ireturn, 1) := by decide +kernel
theorem dX12_draw_11 : decode cX12_draw 11 = .ok (.iload_n 1, 1) := by decide +kernel
theorem dX12_draw_12 : decode cX12_draw 12 = .ok (.i2l, 1) := by decide +kernel
theorem dX12_draw_13 : decode cX12_draw 13 = .ok (.ldc2_w 678, 3) := by decide +kernel
theorem dX12_draw_16 : decode cX12_draw 16 = .ok (.land, 1) := by decide +kernel
theorem dX12_draw_17 : decode cX12_draw 17 = .ok (.lstore_n 3, 1) := by decide +kernel
theorem dX12_draw_18 : decode cX12_draw 18 = .ok (.iload_n 2, 1) := by decide +kernel
theorem dX12_draw_19 : decode cX12_draw 19 = .ok (.i2l, 1) := by decide +kernel
theorem dX12_draw_20 : decode cX12_draw 20 = .ok (.ldc2_w 678, 3) := by decide +kernel
theorem dX12_draw_23 : decode cX12_draw 23 = .ok (.land, 1) := by decide +kernel
theorem dX12_draw_24 : decode cX12_draw 24 = .ok (.lstore 5, 2) := by decide +kernel
theorem dX12_draw_26 : decode cX12_draw 26 = .ok (.aload_n 0, 1) := by decide +kernel
theorem dX12_draw_27 : decode cX12_draw 27 = .ok (.getfield 248, 3) := by decide +kernel
theorem dX12_draw_30 : decode cX12_draw 30 = .ok (.bipush 32, 2) := by decide +kernel
theorem dX12_draw_32 : decode cX12_draw 32 = .ok (.lushr, 1) := by decide +kernel
theorem dX12_draw_33 : decode cX12_draw 33 = .ok (.lstore 7, 2) := by decide +kernel
theorem dX12_draw_35 : decode cX12_draw 35 = .ok (.aload_n 0, 1) := by decide +kernel
theorem dX12_draw_36 : decode cX12_draw 36 = .ok (.getfield 248, 3) := by decide +kernel
theorem dX12_draw_39 : decode cX12_draw 39 = .ok (.ldc2_w 678, 3) := by decide +kernel
theorem dX12_draw_42 : decode cX12_draw 42 = .ok (.land, 1) := by decide +kernel
theorem dX12_draw_43 : decode cX12_draw 43 = .ok (.lstore 9, 2) := by decide +kernel
theorem dX12_draw_45 : decode cX12_draw 45 = .ok (.lload 5, 2) := by decide +kernel
theorem dX12_draw_47 : decode cX12_draw 47 = .ok (.lload 9, 2) := by decide +kernel
theorem dX12_draw_49 : decode cX12_draw 49 = .ok (.lmul, 1) := by decide +kernel
theorem dX12_draw_50 : decode cX12_draw 50 = .ok (.bipush 32, 2) := by decide +kernel
theorem dX12_draw_52 : decode cX12_draw 52 = .ok (.lushr, 1) := by decide +kernel
theorem dX12_draw_53 : decode cX12_draw 53 = .ok (.lstore 11, 2) := by decide +kernel
theorem dX12_draw_55 : decode cX12_draw 55 = .ok (.lload_n 3, 1) := by decide +kernel
theorem dX12_draw_56 : decode cX12_draw 56 = .ok (.lload 9, 2) := by decide +kernel
theorem dX12_draw_58 : decode cX12_draw 58 = .ok (.lmul, 1) := by decide +kernel
theorem dX12_draw_59 : decode cX12_draw 59 = .ok (.lload 11, 2) := by decide +kernel
theorem dX12_draw_61 : decode cX12_draw 61 = .ok (.ladd, 1) := by decide +kernel
theorem dX12_draw_62 : decode cX12_draw 62 = .ok (.lstore 13, 2) := by decide +kernel
theorem dX12_draw_64 : decode cX12_draw 64 = .ok (.lload 5, 2) := by decide +kernel
theorem dX12_draw_66 : decode cX12_draw 66 = .ok (.lload 7, 2) := by decide +kernel
theorem dX12_draw_68 : decode cX12_draw 68 = .ok (.lmul, 1) := by decide +kernel
theorem dX12_draw_69 : decode cX12_draw 69 = .ok (.lload 13, 2) := by decide +kernel
theorem dX12_draw_71 : decode cX12_draw 71 = .ok (.ldc2_w 678, 3) := by decide +kernel
theorem dX12_draw_74 : decode cX12_draw 74 = .ok (.land, 1) := by decide +kernel
theorem dX12_draw_75 : decode cX12_draw 75 = .ok (.ladd, 1) := by decide +kernel
theorem dX12_draw_76 : decode cX12_draw 76 = .ok (.lstore 15, 2) := by decide +kernel
theorem dX12_draw_78 : decode cX12_draw 78 = .ok (.aload_n 0, 1) := by decide +kernel
theorem dX12_draw_79 : decode cX12_draw 79 = .ok (.lload_n 3, 1) := by decide +kernel
theorem dX12_draw_80 : decode cX12_draw 80 = .ok (.lload 7, 2) := by decide +kernel
theorem dX12_draw_82 : decode cX12_draw 82 = .ok (.lmul, 1) := by decide +kernel
theorem dX12_draw_83 : decode cX12_draw 83 = .ok (.lload 13, 2) := by decide +kernel
theorem dX12_draw_85 : decode cX12_draw 85 = .ok (.bipush 32, 2) := by decide +kernel
theorem dX12_draw_87 : decode cX12_draw 87 = .ok (.lushr, 1) := by decide +kernel
theorem dX12_draw_88 : decode cX12_draw 88 = .ok (.ladd, 1) := by decide +kernel
theorem dX12_draw_89 : decode cX12_draw 89 = .ok (.lload 15, 2) := by decide +kernel
theorem dX12_draw_91 : decode cX12_draw 91 = .ok (.bipush 32, 2) := by decide +kernel
theorem dX12_draw_93 : decode cX12_draw 93 = .ok (.lushr, 1) := by decide +kernel
theorem dX12_draw_94 : decode cX12_draw 94 = .ok (.ladd, 1) := by decide +kernel
theorem dX12_draw_95 : decode cX12_draw 95 = .ok (.invokevirtual 674, 3) := by decide +kernel
theorem dX12_draw_98 : decode cX12_draw 98 = .ok (.iconst 1, 1) := by decide +kernel
theorem dX12_draw_99 : decode cX12_draw 99 = .ok (.ireturn, 1) := by decide +kernel
abbrev rm_f_X12_draw : Room := { frames := 2, cells := 0, slots := 0, locals := 50 }
def f_X12_draw (N : Nat) (a0 : Int) (a1 : Int) (t : St) : Option (Int × St) :=
    lt1 (t.2 200 100) fun v1 =>
    (if v1 = (0 : Int64) then (boI 0 (some (0, t)))
    else (rnI a0 (
    rnI a1 (
    lt1 (t.2 200 100) fun v2 =>
    lt1 (t.2 200 100) fun v3 =>
    bdV (f_X12_finds N (((((Int64.ofInt a0) &&& (4294967295 : Int64)) * (ushrL v2 32)) + (ushrL ((((Int64.ofInt a0) &&& (4294967295 : Int64)) * (v3 &&& (4294967295 : Int64))) + (ushrL (((Int64.ofInt a1) &&& (4294967295 : Int64)) * (v3 &&& (4294967295 : Int64))) 32)) 32)) + (ushrL ((((Int64.ofInt a1) &&& (4294967295 : Int64)) * (ushrL v2 32)) + (((((Int64.ofInt a0) &&& (4294967295 : Int64)) * (v3 &&& (4294967295 : Int64))) + (ushrL (((Int64.ofInt a1) &&& (4294967295 : Int64)) * (v3 &&& (4294967295 : Int64))) 32)) &&& (4294967295 : Int64))) 32)) t) fun t4 =>
    boI 1 (some (1, t4))))))
set_option maxHeartbeats 4000000 in
set_option maxRecDepth 100000 in
theorem b_f_X12_draw {p : Program} {l : Launch} {e : Env} {s : State} {m : MethodId} {args : Array Value} {below : List Frame} {meth : Method} {c : Code} {E : cE} {A : Nat → Prop} {r : Nat → Nat} {mc ms : Nat} {z : Int × St} {N : Nat} {a0 : Int} {a1 : Int} {t : St} (X : gX p s m meth c cX12_draw 17 (some .boolean) yX12_draw args E A) (h : f_X12_draw N a0 a1 t = some z) : gP p l e rm_f_X12_draw s m args below meth c E A 17 (MQ below ((gqI E (gW E r shM) z) A) args s mc ms A) (gW E r shM) 0 [(0, .ref (r 200)), (1, iv a0), (2, iv a1)] [] t := by
  unfold f_X12_draw at h
  refine g_aload_n X dX12_draw_0 0 rfl ?_
  refine g_getL X fM_100 rfl dX12_draw_1 h (fun v1 h => ?_)
  refine g_lconst (v := 0) X dX12_draw_4 (by decide) ?_
  refine g_lcmp_ne (tgt := 11) X dX12_draw_5 dX12_draw_6 (by decide) h (fun h => ?_) (fun h => ?_)
  · refine g_iload_n X dX12_draw_11 1 rfl ?_
    refine g_i2l X dX12_draw_12 h (fun h => ?_)
    refine g_ldc2 X rfl wdL_RX12_678 dX12_draw_13 ?_
    refine g_land X dX12_draw_16 ?_
    refine g_lstore_n (lv' := [(3, .long ((Int64.ofInt a0) &&& (4294967295 : Int64))), (0, .ref (r 200)), (1, iv a0), (2, iv a1)]) X dX12_draw_17 rfl (by decide) rfl ?_
    refine g_iload_n X dX12_draw_18 3 rfl ?_
    refine g_i2l X dX12_draw_19 h (fun h => ?_)
    refine g_ldc2 X rfl wdL_RX12_678 dX12_draw_20 ?_
    refine g_land X dX12_draw_23 ?_
    refine g_lstore (lv' := [(5, .long ((Int64.ofInt a1) &&& (4294967295 : Int64))), (3, .long ((Int64.ofInt a0) &&& (4294967295 : Int64))), (0, .ref (r 200)), (1, iv a0), (2, iv a1)]) X dX12_draw_24 (by decide) rfl ?_
    refine g_aload_n X dX12_draw_26 2 rfl ?_
    refine g_getL X fM_100 rfl dX12_draw_27 h (fun v2 h => ?_)
    refine g_bipush X dX12_draw_30 (by decide) ?_
    refine g_lushr X dX12_draw_32 ?_
    refine g_lstore (lv' := [(7, .long (ushrL v2 32)), (5, .long ((Int64.ofInt a1) &&& (4294967295 : Int64))), (3, .long ((Int64.ofInt a0) &&& (4294967295 : Int64))), (0, .ref (r 200)), (1, iv a0), (2, iv a1)]) X dX12_draw_33 (by decide) rfl ?_
    refine g_aload_n X dX12_draw_35 3 rfl ?_
    refine g_getL X fM_100 rfl dX12_draw_36 h (fun v3 h => ?_)
    refine g_ldc2 X rfl wdL_RX12_678 dX12_draw_39 ?_
    refine g_land X dX12_draw_42 ?_
    refine g_lstore (lv' := [(9, .long (v3 &&& (4294967295 : Int64))), (7, .long (ushrL v2 32)), (5, .long ((Int64.ofInt a1) &&& (4294967295 : Int64))), (3, .long ((Int64.ofInt a0) &&& (4294967295 : Int64))), (0, .ref (r 200)), (1, iv a0), (2, iv a1)]) X dX12_draw_43 (by decide) rfl ?_
    refine g_lload X dX12_draw_45 2 rfl ?_
    refine g_lload X dX12_draw_47 0 rfl ?_
    refine g_lmul X dX12_draw_49 ?_
    refine g_bipush X dX12_draw_50 (by decide) ?_
    refine g_lushr X dX12_draw_52 ?_
    refine g_lstore (lv' := [(11, .long (ushrL (((Int64.ofInt a1) &&& (4294967295 : Int64)) * (v3 &&& (4294967295 : Int64))) 32)), (9, .long (v3 &&& (4294967295 : Int64))), (7, .long (ushrL v2 32)), (5, .long ((Int64.ofInt a1) &&& (4294967295 : Int64))), (3, .long ((Int64.ofInt a0) &&& (4294967295 : Int64))), (0, .ref (r 200)), (1, iv a0), (2, iv a1)]) X dX12_draw_53 (by decide) rfl ?_
    refine g_lload_n X dX12_draw_55 4 rfl ?_
    refine g_lload X dX12_draw_56 1 rfl ?_
    refine g_lmul X dX12_draw_58 ?_
    refine g_lload X dX12_draw_59 0 rfl ?_
    refine g_ladd X dX12_draw_61 ?_
    refine g_lstore (lv' := [(13, .long ((((Int64.ofInt a0) &&& (4294967295 : Int64)) * (v3 &&& (4294967295 : Int64))) + (ushrL (((Int64.ofInt a1) &&& (4294967295 : Int64)) * (v3 &&& (4294967295 : Int64))) 32))), (11, .long (ushrL (((Int64.ofInt a1) &&& (4294967295 : Int64)) * (v3 &&& (4294967295 : Int64))) 32)), (9, .long (v3 &&& (4294967295 : Int64))), (7, .long (ushrL v2 32)), (5, .long ((Int64.ofInt a1) &&& (4294967295 : Int64))), (3, .long ((Int64.ofInt a0) &&& (4294967295 : Int64))), (0, .ref (r 200)), (1, iv a0), (2, iv a1)]) X dX12_draw_62 (by decide) rfl ?_
    refine g_lload X dX12_draw_64 4 rfl ?_
    refine g_lload X dX12_draw_66 3 rfl ?_
    refine g_lmul X dX12_draw_68 ?_
    refine g_lload X dX12_draw_69 0 rfl ?_
    refine g_ldc2 X rfl wdL_RX12_678 dX12_draw_71 ?_
    refine g_land X dX12_draw_74 ?_
    refine g_ladd X dX12_draw_75 ?_
    refine g_lstore (lv' := [(15, .long ((((Int64.ofInt a1) &&& (4294967295 : Int64)) * (ushrL v2 32)) + (((((Int64.ofInt a0) &&& (4294967295 : Int64)) * (v3 &&& (4294967295 : Int64))) + (ushrL (((Int64.ofInt a1) &&& (4294967295 : Int64)) * (v3 &&& (4294967295 : Int64))) 32)) &&& (4294967295 : Int64)))), (13, .long ((((Int64.ofInt a0) &&& (4294967295 : Int64)) * (v3 &&& (4294967295 : Int64))) + (ushrL (((Int64.ofInt a1) &&& (4294967295 : Int64)) * (v3 &&& (4294967295 : Int64))) 32))), (11, .long (ushrL (((Int64.ofInt a1) &&& (4294967295 : Int64)) * (v3 &&& (4294967295 : Int64))) 32)), (9, .long (v3 &&& (4294967295 : Int64))), (7, .long (ushrL v2 32)), (5, .long ((Int64.ofInt a1) &&& (4294967295 : Int64))), (3, .long ((Int64.ofInt a0) &&& (4294967295 : Int64))), (0, .ref (r 200)), (1, iv a0), (2, iv a1)]) X dX12_draw_76 (by decide) rfl ?_
    refine g_aload_n X dX12_draw_78 7 rfl ?_
    refine g_lload_n X dX12_draw_79 6 rfl ?_
    refine g_lload X dX12_draw_80 4 rfl ?_
    refine g_lmul X dX12_draw_82 ?_
    refine g_lload X dX12_draw_83 1 rfl ?_
    refine g_bipush X dX12_draw_85 (by decide) ?_
    refine g_lushr X dX12_draw_87 ?_
    refine g_ladd X dX12_draw_88 ?_
    refine g_lload X dX12_draw_89 0 rfl ?_
    refine g_bipush X dX12_draw_91 (by decide) ?_
    refine g_lushr X dX12_draw_93 ?_
    refine g_ladd X dX12_draw_94 ?_
    refine g_callV (rest := []) X (fun u9 h9 => cp_X12_finds l E r N (((((Int64.ofInt a0) &&& (4294967295 : Int64)) * (ushrL v2 32)) + (ushrL ((((Int64.ofInt a0) &&& (4294967295 : Int64)) * (v3 &&& (4294967295 : Int64))) + (ushrL (((Int64.ofInt a1) &&& (4294967295 : Int64)) * (v3 &&& (4294967295 : Int64))) 32)) 32)) + (ushrL ((((Int64.ofInt a1) &&& (4294967295 : Int64)) * (ushrL v2 32)) + (((((Int64.ofInt a0) &&& (4294967295 : Int64)) * (v3 &&& (4294967295 : Int64))) + (ushrL (((Int64.ofInt a1) &&& (4294967295 : Int64)) * (v3 &&& (4294967295 : Int64))) 32)) &&& (4294967295 : Int64))) 32)) t u9 h9) yy_X12_finds yi_X12_finds wdM_RX12_674 0 12 (gW_at oM) rfl rfl rfl (Nat.le_of_ble_eq_true rfl) dX12_draw_95 ⟨by decide, by decide⟩ ⟨rfl, rfl⟩ h (fun t4 h => ?_)
    refine g_iconst X dX12_draw_98 ?_
    exact g_zret X h dX12_draw_99
  · refine g_iconst X dX12_draw_9 ?_
    exact g_zret X h dX12_draw_10
set_option maxHeartbeats 4000000 in
set_option maxRecDepth 100000 in
theorem cp_X12_draw (l : Launch) (E : cE) (r : Nat → Nat) (N : Nat) (a0 : Int) (a1 : Int) (t : St) (z : Int × St) (h : f_X12_draw N a0 a1 t = some z) : cM l E yX12_draw cX12_draw 17 (some .boolean) rm_f_X12_draw [.ref (r 200), iv a0, iv a1] (gW E r shM t) (gqI E (gW E r shM) z) := by
  refine g_of (w := gW E r shM) (by decide) (Nat.le_of_ble_eq_true rfl) ?_
  intro p e s m below meth c A X
  exact g_sub (lv' := [(0, .ref (r 200)), (1, iv a0), (2, iv a1)]) [0, 1, 2] rfl (b_f_X12_draw X h)
theorem yy_X12_draw : cY yX12_draw cX12_draw 17 (some .boolean) 2 := ⟨wdK_X12_draw, wdZ_RX12, by decide +kernel⟩
theorem yi_X12_draw : cYi yX12_draw := ⟨wdN_X12_draw, wdS_X12_draw⟩
theorem dX12_cheapest_0 : decode cX12_cheapest 0 = .ok (.aload_n 0, 1) := by decide +kernel
theorem dX12_cheapest_1 : decode cX12_cheapest 1 = .ok (.getfield 248, 3) := by decide +kernel
theorem dX12_cheapest_4 : decode cX12_cheapest 4 = .ok (.lconst 0, 1) := by decide +kernel
theorem dX12_cheapest_5 : decode cX12_cheapest 5 = .ok (.lcmp, 1) := by decide +kernel
theorem dX12_cheapest_6 : decode cX12_cheapest 6 = .ok (.ifCond .ne 5, 3) := by decide +kernel
theorem dX12_cheapest_9 : decode cX12_cheapest 9 = .ok (.iconst (-1), 1) := by decide +kernel
theorem dX12_cheapest_10 : decode cX12_cheapest 10 = .ok (.ireturn, 1) := by decide +kernel
theorem dX12_cheapest_11 : decode cX12_cheapest 11 = .ok (.iconst 0, 1) := by decide +kernel
theorem dX12_cheapest_12 : decode cX12_cheapest 12 = .ok (.istore_n 1, 1) := by decide +kernel
theorem dX12_cheapest_13 : decode cX12_cheapest 13 = .ok (.iconst 0, 1) := by decide +kernel
theorem dX12_cheapest_14 : decode cX12_cheapest 14 = .ok (.istore_n 2, 1) := by decide +kernel
theorem dX12_cheapest_15 : decode cX12_cheapest 15 = .ok (.iload_n 2, 1) := by decide +kernel
theorem dX12_cheapest_16 : decode cX12_cheapest 16 = .ok (.aload_n 0, 1) := by decide +kernel
theorem dX12_cheapest_17 : decode cX12_cheapest 17 = .ok (.getfield 656, 3) := by decide +kernel
theorem dX12_cheapest_20 : decode cX12_cheapest 20 = .ok (.if_icmp .ge 77, 3) := by decide +kernel
theorem dX12_cheapest_23 : decode cX12_cheapest 23 = .ok (.iconst 0, 1) := by decide +kernel
theorem dX12_cheapest_24 : decode cX12_cheapest 24 = .ok (.istore_n 3, 1) := by decide +kernel
theorem dX12_cheapest_25 : decode cX12_cheapest 25 = .ok (.aload_n 0, 1) := by decide +kernel
theorem dX12_cheapest_26 : decode cX12_cheapest 26 = .ok (.iload_n 1, 1) := by decide +kernel
theorem dX12_cheapest_27 : decode cX12_cheapest 27 = .ok (.iload_n 3, 1) := by decide +kernel
theorem dX12_cheapest_28 : decode cX12_cheapest 28 = .ok (.invokevirtual 668, 3) := by decide +kernel
theorem dX12_cheapest_31 : decode cX12_cheapest 31 = .ok (.ifCond .eq 35, 3) := by decide +kernel
theorem dX12_cheapest_34 : decode cX12_cheapest 34 = .ok (.aload_n 0, 1) := by decide +kernel
theorem dX12_cheapest_35 : decode cX12_cheapest 35 = .ok (.getfield 187, 3) := by decide +kernel
theorem dX12_cheapest_38 : decode cX12_cheapest 38 = .ok (.aload_n 0, 1) := by decide +kernel
theorem dX12_cheapest_39 : decode cX12_cheapest 39 = .ok (.getfield 181, 3) := by decide +kernel
theorem dX12_cheapest_42 : decode cX12_cheapest 42 = .ok (.bipush 32, 2) := by decide +kernel
theorem dX12_cheapest_44 : decode cX12_cheapest 44 = .ok (.iload_n 1, 1) := by decide +kernel
theorem dX12_cheapest_45 : decode cX12_cheapest 45 = .ok (.imul, 1) := by decide +kernel
theorem dX12_cheapest_46 : decode cX12_cheapest 46 = .ok (.iload_n 3, 1) := by decide +kernel
theorem dX12_cheapest_47 : decode cX12_cheapest 47 = .ok (.iadd, 1) := by decide +kernel
theorem dX12_cheapest_48 : decode cX12_cheapest 48 = .ok (.iaload, 1) := by decide +kernel
theorem dX12_cheapest_49 : decode cX12_cheapest 49 = .ok (.iaload, 1) := by decide +kernel
theorem dX12_cheapest_50 : decode cX12_cheapest 50 = .ok (.aload_n 0, 1) := by decide +kernel
theorem dX12_cheapest_51 : decode cX12_cheapest 51 = .ok (.getfield 190, 3) := by decide +kernel
theorem dX12_cheapest_54 : decode cX12_cheapest 54 = .ok (.iload_n 3, 1) := by decide +kernel
theorem dX12_cheapest_55 : decode cX12_cheapest 55 = .ok (.iaload, 1) := by decide +kernel
theorem dX12_cheapest_56 : decode cX12_cheapest 56 = .ok (.iadd, 1) := by decide +kernel
theorem dX12_cheapest_57 : decode cX12_cheapest 57 = .ok (.aload_n 0, 1) := by decide +kernel
theorem dX12_cheapest_58 : decode cX12_cheapest 58 = .ok (.getfield 187, 3) := by decide +kernel
theorem dX12_cheapest_61 : decode cX12_cheapest 61 = .ok (.iload_n 1, 1) := by decide +kernel
theorem dX12_cheapest_62 : decode cX12_cheapest 62 = .ok (.iaload, 1) := by decide +kernel
theorem dX12_cheapest_63 : decode cX12_cheapest 63 = .ok (.if_icmp .eq 9, 3) := by decide +kernel
theorem dX12_cheapest_66 : decode cX12_cheapest 66 = .ok (.iinc 3 1, 3) := by decide +kernel
theorem dX12_cheapest_69 : decode cX12_cheapest 69 = .ok (.goto (-44), 3) := by decide +kernel
theorem dX12_cheapest_72 : decode cX12_cheapest 72 = .ok (.aload_n 0, 1) := by decide +kernel
theorem dX12_cheapest_73 : decode cX12_cheapest 73 = .ok (.getfield 199, 3) := by decide +kernel
theorem dX12_cheapest_76 : decode cX12_cheapest 76 = .ok (.iload_n 2, 1) := by decide +kernel
theorem dX12_cheapest_77 : decode cX12_cheapest 77 = .ok (.iload_n 3, 1) := by decide +kernel
theorem dX12_cheapest_78 : decode cX12_cheapest 78 = .ok (.iastore, 1) := by decide +kernel
theorem dX12_cheapest_79 : decode cX12_cheapest 79 = .ok (.aload_n 0, 1) := by decide +kernel
theorem dX12_cheapest_80 : decode cX12_cheapest 80 = .ok (.getfield 181, 3) := by decide +kernel
theorem dX12_cheapest_83 : decode cX12_cheapest 83 = .ok (.bipush 32, 2) := by decide +kernel
theorem dX12_cheapest_85 : decode cX12_cheapest 85 = .ok (.iload_n 1, 1) := by decide +kernel
theorem dX12_cheapest_86 : decode cX12_cheapest 86 = .ok (.imul, 1) := by decide +kernel
theorem dX12_cheapest_87 : decode cX12_cheapest 87 = .ok (.iload_n 3, 1) := by decide +kernel
theorem dX12_cheapest_88 : decode cX12_cheapest 88 = .ok (.iadd, 1) := by decide +kernel
theorem dX12_cheapest_89 : decode cX12_cheapest 89 = .ok (.iaload, 1) := by decide +kernel
theorem dX12_cheapest_90 : decode cX12_cheapest 90 = .ok (.istore_n 1, 1) := by decide +kernel
theorem dX12_cheapest_91 : decode cX12_cheapest 91 = .ok (.iinc 2 1, 3) := by decide +kernel
theorem dX12_cheapest_94 : decode cX12_cheapest 94 = .ok (.goto (-79), 3) := by decide +kernel
theorem dX12_cheapest_97 : decode cX12_cheapest 97 = .ok (.aload_n 0, 1) := by decide +kernel
theorem dX12_cheapest_98 : decode cX12_cheapest 98 = .ok (.aload_n 0, 1) := by decide +kernel
theorem dX12_cheapest_99 : decode cX12_cheapest 99 = .ok (.getfield 656, 3) := by decide +kernel
theorem dX12_cheapest_102 : decode cX12_cheapest 102 = .ok (.putfield 196, 3) := by decide +kernel
theorem dX12_cheapest_105 : decode cX12_cheapest 105 = .ok (.aload_n 0, 1) := by decide +kernel
theorem dX12_cheapest_106 : decode cX12_cheapest 106 = .ok (.iconst 0, 1) := by decide +kernel
theorem dX12_cheapest_107 : decode cX12_cheapest 107 = .ok (.putfield 671, 3) := by decide +kernel
theorem dX12_cheapest_110 : decode cX12_cheapest 110 = .ok (.aload_n 0, 1) := by decide +kernel
theorem dX12_cheapest_111 : decode cX12_cheapest 111 = .ok (.getfield 187, 3) := by decide +kernel
theorem dX12_cheapest_114 : decode cX12_cheapest 114 = .ok (.iconst 0, 1) := by decide +kernel
theorem dX12_cheapest_115 : decode cX12_cheapest 115 = .ok (.iaload, 1) := by decide +kernel
theorem dX12_cheapest_116 : decode cX12_cheapest 116 = .ok (.ireturn, 1) := by decide +kernel
abbrev rm_f_X12_cheapest : Room := { frames := 1, cells := 0, slots := 0, locals := 23 }
def f_X12_cheapest_L25 (N : Nat) (K11 : (Int → St → Option (Int × St))) (y7 : Int) : Nat → Int → St → Option (Int × St)
  | 0, _, _ => none
  | n9 + 1, x9, t10 =>
    bdI (f_X12_isOnWay N y7 x9 t10) fun v13 t12 =>
    jn1 (fun (t14 : St) => f_X12_cheapest_L25 N K11 y7 n9 (x9 + 1) t14) fun J15 =>
    cmpI v13 0 (if v13 = 0 then (J15 t12)
    else (ixI ((32 * y7) + x9) 64000 (lt1 (t12.1 94 ((32 * y7) + x9).toNat) fun v16 =>
    ixI v16 2000 (lt1 (t12.1 96 v16.toNat) fun v17 =>
    ixI x9 32 (lt1 (t12.1 97 x9.toNat) fun v18 =>
    ixI y7 2000 (lt1 (t12.1 96 y7.toNat) fun v19 =>
    cmpI (v17 + v18) v19 (if (v17 + v18) = v19 then (K11 x9 t12)
    else (J15 t12))))))))
def f_X12_cheapest_L15 (N : Nat) (K5 : (St → Option (Int × St))) : Nat → Int → Int → St → Option (Int × St)
  | 0, _, _, _ => none
  | n9 + 1, x2, x3, t4 =>
    lt1 (t4.1 200 91) fun v6 =>
    cmpI x3 v6 (if x3 < v6 then (f_X12_cheapest_L25 N (fun (k20 : Int) (t21 : St) => ixI x3 12 (lt1 (pI t21 103 x3.toNat k20) fun t22 =>
    ixI ((32 * x2) + k20) 64000 (lt1 (t22.1 94 ((32 * x2) + k20).toNat) fun v23 =>
    f_X12_cheapest_L15 N K5 n9 v23 (x3 + 1) t22))) x2 N 0 t4)
    else (K5 t4))
def f_X12_cheapest (N : Nat) (t : St) : Option (Int × St) :=
    lt1 (t.2 200 100) fun v1 =>
    (if v1 = (0 : Int64) then (some ((-1), t))
    else (f_X12_cheapest_L15 N (fun (t24 : St) => lt1 (t24.1 200 91) fun v25 =>
    lt1 (pI t24 200 101 v25) fun t26 =>
    lt1 (pI t26 200 102 0) fun t27 =>
    ixI 0 2000 (lt1 (t27.1 96 (0 : Int).toNat) fun v28 =>
    some (v28, t27))) N 0 0 t))
set_option maxHeartbeats 4000000 in
set_option maxRecDepth 100000 in
theorem t_f_X12_cheapest_L25 {p : Program} {l : Launch} {e : Env} {s : State} {m : MethodId} {args : Array Value} {below : List Frame} {meth : Method} {c : Code} {E : cE} {A : Nat → Prop} {r : Nat → Nat} {mc ms : Nat} {z : Int × St} {N : Nat} {K11 : (Int → St → Option (Int × St))} {y7 : Int} {y8 : Int} (X : gX p s m meth c cX12_cheapest 4 (some .int) yX12_cheapest args E A) (hK11 : ∀ (q3 : Int) (t9 : St), K11 q3 t9 = some z → gP p l e rm_f_X12_cheapest s m args below meth c E A 4 (MQ below ((gqI E (gW E r shM) z) A) args s mc ms A) (gW E r shM) 72 [(0, .ref (r 200)), (1, iv y7), (2, iv y8), (3, iv q3)] [] t9) : ∀ (n9 : Nat) (x9 : Int) (t10 : St), f_X12_cheapest_L25 N K11 y7 n9 x9 t10 = some z → gP p l e rm_f_X12_cheapest s m args below meth c E A 4 (MQ below ((gqI E (gW E r shM) z) A) args s mc ms A) (gW E r shM) 25 [(0, .ref (r 200)), (1, iv y7), (2, iv y8), (3, iv x9)] [] t10 := by
  intro n9
  induction n9 with
  | zero => intro x9 t10 h; cases h
  | succ n9 ih =>
    intro x9 t10 h
    unfold f_X12_cheapest_L25 at h
    refine g_aload_n X dX12_cheapest_25 0 rfl ?_
    refine g_iload_n X dX12_cheapest_26 1 rfl ?_
    refine g_iload_n X dX12_cheapest_27 3 rfl ?_
    refine g_callI (rest := []) X (fun u9 h9 => cp_X12_isOnWay l E r N y7 x9 t10 u9 h9) yy_X12_isOnWay yi_X12_isOnWay wdM_RX12_668 0 12 (gW_at oM) rfl rfl rfl (Nat.le_of_ble_eq_true rfl) dX12_cheapest_28 ⟨by decide, by decide⟩ ⟨rfl, rfl⟩ h (fun v13 t12 h => ?_)
    refine g_join (J := fun jj => ∀ (t14 : St), jj  t14 = some z → gP p l e rm_f_X12_cheapest s m args below meth c E A 4 (MQ below ((gqI E (gW E r shM) z) A) args s mc ms A) (gW E r shM) 66 [(0, .ref (r 200)), (1, iv y7), (2, iv y8), (3, iv x9)] [] t14) h (fun  t14 h => ?_) (fun J15 hJ15 h => ?_)
    · refine g_iinc (lv' := [(3, iv (x9 + 1)), (0, .ref (r 200)), (1, iv y7), (2, iv y8)]) X dX12_cheapest_66 (k := 3) rfl (by decide) rfl ?_
      refine g_goto (tgt := 25) X dX12_cheapest_69 (by decide) ?_
      exact g_sub (lv' := [(0, .ref (r 200)), (1, iv y7), (2, iv y8), (3, iv (x9 + 1))]) [1, 2, 3, 0] rfl (ih (x9 + 1) t14 h)
    refine g_if_eq (tgt := 66) X dX12_cheapest_31 (by decide) h (fun h => ?_) (fun h => ?_)
    · exact g_sub (lv' := [(0, .ref (r 200)), (1, iv y7), (2, iv y8), (3, iv x9)]) [0, 1, 2, 3] rfl (hJ15 t12 h)
    · refine g_aload_n X dX12_cheapest_34 0 rfl ?_
      refine g_getR X fM_96 rfl dX12_cheapest_35 ?_
      refine g_aload_n X dX12_cheapest_38 0 rfl ?_
      refine g_getR X fM_94 rfl dX12_cheapest_39 ?_
      refine g_bipush X dX12_cheapest_42 (by decide) ?_
      refine g_iload_n X dX12_cheapest_44 1 rfl ?_
      refine g_imul X dX12_cheapest_45 ?_
      refine g_iload_n X dX12_cheapest_46 3 rfl ?_
      refine g_iadd X dX12_cheapest_47 ?_
      refine g_iald X aM_94 dX12_cheapest_48 h (fun v16 h => ?_)
      refine g_iald X aM_96 dX12_cheapest_49 h (fun v17 h => ?_)
      refine g_aload_n X dX12_cheapest_50 0 rfl ?_
      refine g_getR X fM_97 rfl dX12_cheapest_51 ?_
      refine g_iload_n X dX12_cheapest_54 3 rfl ?_
      refine g_iald X aM_97 dX12_cheapest_55 h (fun v18 h => ?_)
      refine g_iadd X dX12_cheapest_56 ?_
      refine g_aload_n X dX12_cheapest_57 0 rfl ?_
      refine g_getR X fM_96 rfl dX12_cheapest_58 ?_
      refine g_iload_n X dX12_cheapest_61 1 rfl ?_
      refine g_iald X aM_96 dX12_cheapest_62 h (fun v19 h => ?_)
      refine g_icmp_eq (tgt := 72) X dX12_cheapest_63 (by decide) h (fun h => ?_) (fun h => ?_)
      · exact g_sub (lv' := [(0, .ref (r 200)), (1, iv y7), (2, iv y8), (3, iv x9)]) [0, 1, 2, 3] rfl (hK11 x9 t12 h)
      · exact g_sub (lv' := [(0, .ref (r 200)), (1, iv y7), (2, iv y8), (3, iv x9)]) [0, 1, 2, 3] rfl (hJ15 t12 h)
set_option maxHeartbeats 4000000 in
set_option maxRecDepth 100000 in
theorem t_f_X12_cheapest_L15 {p : Program} {l : Launch} {e : Env} {s : State} {m : MethodId} {args : Array Value} {below : List Frame} {meth : Method} {c : Code} {E : cE} {A : Nat → Prop} {r : Nat → Nat} {mc ms : Nat} {z : Int × St} {N : Nat} {K5 : (St → Option (Int × St))} (X : gX p s m meth c cX12_cheapest 4 (some .int) yX12_cheapest args E A) (hK5 : ∀ (t9 : St), K5 t9 = some z → gP p l e rm_f_X12_cheapest s m args below meth c E A 4 (MQ below ((gqI E (gW E r shM) z) A) args s mc ms A) (gW E r shM) 97 [(0, .ref (r 200))] [] t9) : ∀ (n9 : Nat) (x2 : Int) (x3 : Int) (t4 : St), f_X12_cheapest_L15 N K5 n9 x2 x3 t4 = some z → gP p l e rm_f_X12_cheapest s m args below meth c E A 4 (MQ below ((gqI E (gW E r shM) z) A) args s mc ms A) (gW E r shM) 15 [(0, .ref (r 200)), (1, iv x2), (2, iv x3)] [] t4 := by
  intro n9
  induction n9 with
  | zero => intro x2 x3 t4 h; cases h
  | succ n9 ih =>
    intro x2 x3 t4 h
    unfold f_X12_cheapest_L15 at h
    refine g_iload_n X dX12_cheapest_15 2 rfl ?_
    refine g_aload_n X dX12_cheapest_16 0 rfl ?_
    refine g_getI X fM_91 rfl dX12_cheapest_17 h (fun v6 h => ?_)
    refine g_icmp_ge (tgt := 97) X dX12_cheapest_20 (by decide) h (fun h => ?_) (fun h => ?_)
    · exact g_sub (lv' := [(0, .ref (r 200))]) [0] rfl (hK5 t4 h)
    · refine g_iconst X dX12_cheapest_23 ?_
      refine g_istore_n (lv' := [(3, iv 0), (0, .ref (r 200)), (1, iv x2), (2, iv x3)]) X dX12_cheapest_24 rfl (by decide) rfl ?_
      refine g_sub (lv' := [(0, .ref (r 200)), (1, iv x2), (2, iv x3), (3, iv 0)]) [1, 2, 3, 0] rfl (t_f_X12_cheapest_L25 X (fun k20 t21 h => ?_) N 0 t4 h)
      · refine g_aload_n X dX12_cheapest_72 0 rfl ?_
        refine g_getR X fM_103 rfl dX12_cheapest_73 ?_
        refine g_iload_n X dX12_cheapest_76 2 rfl ?_
        refine g_iload_n X dX12_cheapest_77 3 rfl ?_
        refine g_iast X aM_103 dX12_cheapest_78 h (fun t22 h => ?_)
        refine g_aload_n X dX12_cheapest_79 0 rfl ?_
        refine g_getR X fM_94 rfl dX12_cheapest_80 ?_
        refine g_bipush X dX12_cheapest_83 (by decide) ?_
        refine g_iload_n X dX12_cheapest_85 1 rfl ?_
        refine g_imul X dX12_cheapest_86 ?_
        refine g_iload_n X dX12_cheapest_87 3 rfl ?_
        refine g_iadd X dX12_cheapest_88 ?_
        refine g_iald X aM_94 dX12_cheapest_89 h (fun v23 h => ?_)
        refine g_istore_n (lv' := [(1, iv v23), (0, .ref (r 200)), (2, iv x3), (3, iv k20)]) X dX12_cheapest_90 rfl (by decide) rfl ?_
        refine g_iinc (lv' := [(2, iv (x3 + 1)), (1, iv v23), (0, .ref (r 200)), (3, iv k20)]) X dX12_cheapest_91 (k := 2) rfl (by decide) rfl ?_
        refine g_goto (tgt := 15) X dX12_cheapest_94 (by decide) ?_
        exact g_sub (lv' := [(0, .ref (r 200)), (1, iv v23), (2, iv (x3 + 1))]) [2, 1, 0] rfl (ih v23 (x3 + 1) t22 h)
set_option maxHeartbeats 4000000 in
set_option maxRecDepth 100000 in
theorem b_f_X12_cheapest {p : Program} {l : Launch} {e : Env} {s : State} {m : MethodId} {args : Array Value} {below : List Frame} {meth : Method} {c : Code} {E : cE} {A : Nat → Prop} {r : Nat → Nat} {mc ms : Nat} {z : Int × St} {N : Nat} {t : St} (X : gX p s m meth c cX12_cheapest 4 (some .int) yX12_cheapest args E A) (h : f_X12_cheapest N t = some z) : gP p l e rm_f_X12_cheapest s m args below meth c E A 4 (MQ below ((gqI E (gW E r shM) z) A) args s mc ms A) (gW E r shM) 0 [(0, .ref (r 200))] [] t := by
  unfold f_X12_cheapest at h
  refine g_aload_n X dX12_cheapest_0 0 rfl ?_
  refine g_getL X fM_100 rfl dX12_cheapest_1 h (fun v1 h => ?_)
  refine g_lconst (v := 0) X dX12_cheapest_4 (by decide) ?_
  refine g_lcmp_ne (tgt := 11) X dX12_cheapest_5 dX12_cheapest_6 (by decide) h (fun h => ?_) (fun h => ?_)
  · refine g_iconst X dX12_cheapest_11 ?_
    refine g_istore_n (lv' := [(1, iv 0), (0, .ref (r 200))]) X dX12_cheapest_12 rfl (by decide) rfl ?_
    refine g_iconst X dX12_cheapest_13 ?_
    refine g_istore_n (lv' := [(2, iv 0), (1, iv 0), (0, .ref (r 200))]) X dX12_cheapest_14 rfl (by decide) rfl ?_
    refine g_sub (lv' := [(0, .ref (r 200)), (1, iv 0), (2, iv 0)]) [2, 1, 0] rfl (t_f_X12_cheapest_L15 X (fun t24 h => ?_) N 0 0 t h)
    · refine g_aload_n X dX12_cheapest_97 0 rfl ?_
      refine g_aload_n X dX12_cheapest_98 0 rfl ?_
      refine g_getI X fM_91 rfl dX12_cheapest_99 h (fun v25 h => ?_)
      refine g_putI X fM_101w rfl dX12_cheapest_102 h (fun t26 h => ?_)
      refine g_aload_n X dX12_cheapest_105 0 rfl ?_
      refine g_iconst X dX12_cheapest_106 ?_
      refine g_putI X fM_102w rfl dX12_cheapest_107 h (fun t27 h => ?_)
      refine g_aload_n X dX12_cheapest_110 0 rfl ?_
      refine g_getR X fM_96 rfl dX12_cheapest_111 ?_
      refine g_iconst X dX12_cheapest_114 ?_
      refine g_iald X aM_96 dX12_cheapest_115 h (fun v28 h => ?_)
      exact g_iret X h dX12_cheapest_116
  · refine g_iconst X dX12_cheapest_9 ?_
    exact g_iret X h dX12_cheapest_10
set_option maxHeartbeats 4000000 in
set_option maxRecDepth 100000 in
theorem cp_X12_cheapest (l : Launch) (E : cE) (r : Nat → Nat) (N : Nat) (t : St) (z : Int × St) (h : f_X12_cheapest N t = some z) : cM l E yX12_cheapest cX12_cheapest 4 (some .int) rm_f_X12_cheapest [.ref (r 200)] (gW E r shM t) (gqI E (gW E r shM) z) := by
  refine g_of (w := gW E r shM) (by decide) (Nat.le_of_ble_eq_true rfl) ?_
  intro p e s m below meth c A X
  exact g_sub (lv' := [(0, .ref (r 200))]) [0] rfl (b_f_X12_cheapest X h)
theorem yy_X12_cheapest : cY yX12_cheapest cX12_cheapest 4 (some .int) 0 := ⟨wdK_X12_cheapest, wdZ_RX12, by decide +kernel⟩
theorem yi_X12_cheapest : cYi yX12_cheapest := ⟨wdN_X12_cheapest, wdS_X12_cheapest⟩
theorem dX12_found_0 : decode cX12_found 0 = .ok (.iload_n 1, 1) := by decide +kernel
theorem dX12_found_1 : decode cX12_found 1 = .ok (.iconst 0, 1) := by decide +kernel
theorem dX12_found_2 : decode cX12_found 2 = .ok (.aload_n 0, 1) := by decide +kernel
theorem dX12_found_3 : decode cX12_found 3 = .ok (.getfield 196, 3) := by decide +kernel
theorem dX12_found_6 : decode cX12_found 6 = .ok (.iconst 1, 1) := by decide +kernel
theorem dX12_found_7 : decode cX12_found 7 = .ok (.isub, 1) := by decide +kernel
theorem dX12_found_8 : decode cX12_found 8 = .ok (.invokestatic 227, 3) := by decide +kernel
theorem dX12_found_11 : decode cX12_found 11 = .ok (.ifCond .eq 12, 3) := by decide +kernel
theorem dX12_found_14 : decode cX12_found 14 = .ok (.aload_n 0, 1) := by decide +kernel
theorem dX12_found_15 : decode cX12_found 15 = .ok (.getfield 199, 3) := by decide +kernel
theorem dX12_found_18 : decode cX12_found 18 = .ok (.iload_n 1, 1) := by decide +kernel
theorem dX12_found_19 : decode cX12_found 19 = .ok (.iaload, 1) := by decide +kernel
theorem dX12_found_20 : decode cX12_found 20 = .ok (.goto 4, 3) := by decide +kernel
theorem dX12_found_23 : decode cX12_found 23 = .ok (.iconst (-1), 1) := by decide +kernel
theorem dX12_found_24 : decode cX12_found 24 = .ok (.ireturn, 1) := by decide +kernel
abbrev rm_f_X12_found : Room := { frames := 1, cells := 0, slots := 0, locals := 22 }
def f_X12_found (N : Nat) (a0 : Int) (t : St) : Option (Int × St) :=
    lt1 (t.1 200 101) fun v1 =>
    bdI (f_X12_in N a0 0 (v1 - 1) t) fun v3 t2 =>
    cmpI v3 0 (if v3 = 0 then (some ((-1), t2))
    else (ixI a0 12 (lt1 (t2.1 103 a0.toNat) fun v4 =>
    some (v4, t2))))
set_option maxHeartbeats 4000000 in
set_option maxRecDepth 100000 in
theorem b_f_X12_found {p : Program} {l : Launch} {e : Env} {s : State} {m : MethodId} {args : Array Value} {below : List Frame} {meth : Method} {c : Code} {E : cE} {A : Nat → Prop} {r : Nat → Nat} {mc ms : Nat} {z : Int × St} {N : Nat} {a0 : Int} {t : St} (X : gX p s m meth c cX12_found 2 (some .int) yX12_found args E A) (h : f_X12_found N a0 t = some z) : gP p l e rm_f_X12_found s m args below meth c E A 2 (MQ below ((gqI E (gW E r shM) z) A) args s mc ms A) (gW E r shM) 0 [(0, .ref (r 200)), (1, iv a0)] [] t := by
  unfold f_X12_found at h
  refine g_iload_n X dX12_found_0 1 rfl ?_
  refine g_iconst X dX12_found_1 ?_
  refine g_aload_n X dX12_found_2 0 rfl ?_
  refine g_getI X fM_101 rfl dX12_found_3 h (fun v1 h => ?_)
  refine g_iconst X dX12_found_6 ?_
  refine g_isub X dX12_found_7 ?_
  refine g_callsI (rest := []) X (fun u9 h9 => cp_X12_in l E r N a0 0 (v1 - 1) t u9 h9) yy_X12_in wdT_X12_in wdM_RX12_227 rfl rfl (Nat.le_of_ble_eq_true rfl) dX12_found_8 ⟨by decide, by decide⟩ ⟨rfl, rfl⟩ h (fun v3 t2 h => ?_)
  refine g_if_eq (tgt := 23) X dX12_found_11 (by decide) h (fun h => ?_) (fun h => ?_)
  · refine g_iconst X dX12_found_23 ?_
    exact g_iret X h dX12_found_24
  · refine g_aload_n X dX12_found_14 0 rfl ?_
    refine g_getR X fM_103 rfl dX12_found_15 ?_
    refine g_iload_n X dX12_found_18 1 rfl ?_
    refine g_iald X aM_103 dX12_found_19 h (fun v4 h => ?_)
    refine g_goto (tgt := 24) X dX12_found_20 (by decide) ?_
    exact g_iret X h dX12_found_24
set_option maxHeartbeats 4000000 in
set_option maxRecDepth 100000 in
theorem cp_X12_found (l : Launch) (E : cE) (r : Nat → Nat) (N : Nat) (a0 : Int) (t : St) (z : Int × St) (h : f_X12_found N a0 t = some z) : cM l E yX12_found cX12_found 2 (some .int) rm_f_X12_found [.ref (r 200), iv a0] (gW E r shM t) (gqI E (gW E r shM) z) := by
  refine g_of (w := gW E r shM) (by decide) (Nat.le_of_ble_eq_true rfl) ?_
  intro p e s m below meth c A X
  exact g_sub (lv' := [(0, .ref (r 200)), (1, iv a0)]) [0, 1] rfl (b_f_X12_found X h)
theorem yy_X12_found : cY yX12_found cX12_found 2 (some .int) 1 := ⟨wdK_X12_found, wdZ_RX12, by decide +kernel⟩
theorem yi_X12_found : cYi yX12_found := ⟨wdN_X12_found, wdS_X12_found⟩
theorem dX12_dancer_0 : decode cX12_dancer 0 = .ok (.iload_n 1, 1) := by decide +kernel
theorem dX12_dancer_1 : decode cX12_dancer 1 = .ok (.iconst 0, 1) := by decide +kernel
theorem dX12_dancer_2 : decode cX12_dancer 2 = .ok (.aload_n 0, 1) := by decide +kernel
theorem dX12_dancer_3 : decode cX12_dancer 3 = .ok (.getfield 231, 3) := by decide +kernel
theorem dX12_dancer_6 : decode cX12_dancer 6 = .ok (.iconst 1, 1) := by decide +kernel
theorem dX12_dancer_7 : decode cX12_dancer 7 = .ok (.isub, 1) := by decide +kernel
theorem dX12_dancer_8 : decode cX12_dancer 8 = .ok (.invokestatic 227, 3) := by decide +kernel
theorem dX12_dancer_11 : decode cX12_dancer 11 = .ok (.ifCond .ne 5, 3) := by decide +kernel
theorem dX12_dancer_14 : decode cX12_dancer 14 = .ok (.iconst (-1), 1) := by decide +kernel
theorem dX12_dancer_15 : decode cX12_dancer 15 = .ok (.ireturn, 1) := by decide +kernel
theorem dX12_dancer_16 : decode cX12_dancer 16 = .ok (.iload_n 2, 1) := by decide +kernel
theorem dX12_dancer_17 : decode cX12_dancer 17 = .ok (.ifCond .ne 12, 3) := by decide +kernel
theorem dX12_dancer_20 : decode cX12_dancer 20 = .ok (.aload_n 0, 1) := by decide +kernel
theorem dX12_dancer_21 : decode cX12_dancer 21 = .ok (.getfield 71, 3) := by decide +kernel
theorem dX12_dancer_24 : decode cX12_dancer 24 = .ok (.iload_n 1, 1) := by decide +kernel
theorem dX12_dancer_25 : decode cX12_dancer 25 = .ok (.iaload, 1) := by decide +kernel
theorem dX12_dancer_26 : decode cX12_dancer 26 = .ok (.goto 46, 3) := by decide +kernel
theorem dX12_dancer_29 : decode cX12_dancer 29 = .ok (.iload_n 2, 1) := by decide +kernel
theorem dX12_dancer_30 : decode cX12_dancer 30 = .ok (.iconst 1, 1) := by decide +kernel
theorem dX12_dancer_31 : decode cX12_dancer 31 = .ok (.if_icmp .ne 12, 3) := by decide +kernel
theorem dX12_dancer_34 : decode cX12_dancer 34 = .ok (.aload_n 0, 1) := by decide +kernel
theorem dX12_dancer_35 : decode cX12_dancer 35 = .ok (.getfield 74, 3) := by decide +kernel
theorem dX12_dancer_38 : decode cX12_dancer 38 = .ok (.iload_n 1, 1) := by decide +kernel
theorem dX12_dancer_39 : decode cX12_dancer 39 = .ok (.iaload, 1) := by decide +kernel
theorem dX12_dancer_40 : decode cX12_dancer 40 = .ok (.goto 32, 3) := by decide +kernel
theorem dX12_dancer_43 : decode cX12_dancer 43 = .ok (.iload_n 2, 1) := by decide +kernel
theorem dX12_dancer_44 : decode cX12_dancer 44 = .ok (.iconst 2, 1) := by decide +kernel
theorem dX12_dancer_45 : decode cX12_dancer 45 = .ok (.if_icmp .ne 12, 3) := by decide +kernel
theorem dX12_dancer_48 : decode cX12_dancer 48 = .ok (.aload_n 0, 1) := by decide +kernel
theorem dX12_dancer_49 : decode cX12_dancer 49 = .ok (.getfield 77, 3) := by decide +kernel
theorem dX12_dancer_52 : decode cX12_dancer 52 = .ok (.iload_n 1, 1) := by decide +kernel
theorem dX12_dancer_53 : decode cX12_dancer 53 = .ok (.iaload, 1) := by decide +kernel
theorem dX12_dancer_54 : decode cX12_dancer 54 = .ok (.goto 18, 3) := by decide +kernel
theorem dX12_dancer_57 : decode cX12_dancer 57 = .ok (.iload_n 2, 1) := by decide +kernel
theorem dX12_dancer_58 : decode cX12_dancer 58 = .ok (.iconst 3, 1) := by decide +kernel
theorem dX12_dancer_59 : decode cX12_dancer 59 = .ok (.if_icmp .ne 12, 3) := by decide +kernel
theorem dX12_dancer_62 : decode cX12_dancer 62 = .ok (.aload_n 0, 1) := by decide +kernel
theorem dX12_dancer_63 : decode cX12_dancer 63 = .ok (.getfield 80, 3) := by decide +kernel
theorem dX12_dancer_66 : decode cX12_dancer 66 = .ok (.iload_n 1, 1) := by decide +kernel
theorem dX12_dancer_67 : decode cX12_dancer 67 = .ok (.iaload, 1) := by decide +kernel
theorem dX12_dancer_68 : decode cX12_dancer 68 = .ok (.goto 4, 3) := by decide +kernel
theorem dX12_dancer_71 : decode cX12_dancer 71 = .ok (.iconst (-1), 1) := by decide +kernel
theorem dX12_dancer_72 : decode cX12_dancer 72 = .ok (.ireturn, 1) := by decide +kernel
abbrev rm_f_X12_dancer : Room := { frames := 1, cells := 0, slots := 0, locals := 22 }
def f_X12_dancer (N : Nat) (a0 : Int) (a1 : Int) (t : St) : Option (Int × St) :=
    lt1 (t.1 200 37) fun v1 =>
    bdI (f_X12_in N a0 0 (v1 - 1) t) fun v3 t2 =>
    cmpI v3 0 (if v3 = 0 then (some ((-1), t2))
    else (cmpI a1 0 (if a1 = 0 then (ixI a0 64 (lt1 (t2.1 38 a0.toNat) fun v7 =>
    some (v7, t2)))
    else (cmpI a1 1 (if a1 = 1 then (ixI a0 64 (lt1 (t2.1 39 a0.toNat) fun v6 =>
    some (v6, t2)))
    else (cmpI a1 2 (if a1 = 2 then (ixI a0 64 (lt1 (t2.1 40 a0.toNat) fun v5 =>
    some (v5, t2)))
    else (cmpI a1 3 (if a1 = 3 then (ixI a0 64 (lt1 (t2.1 41 a0.toNat) fun v4 =>
    some (v4, t2)))
    else (some ((-1), t2)))))))))))
set_option maxHeartbeats 4000000 in
set_option maxRecDepth 100000 in
theorem b_f_X12_dancer {p : Program} {l : Launch} {e : Env} {s : State} {m : MethodId} {args : Array Value} {below : List Frame} {meth : Method} {c : Code} {E : cE} {A : Nat → Prop} {r : Nat → Nat} {mc ms : Nat} {z : Int × St} {N : Nat} {a0 : Int} {a1 : Int} {t : St} (X : gX p s m meth c cX12_dancer 3 (some .int) yX12_dancer args E A) (h : f_X12_dancer N a0 a1 t = some z) : gP p l e rm_f_X12_dancer s m args below meth c E A 3 (MQ below ((gqI E (gW E r shM) z) A) args s mc ms A) (gW E r shM) 0 [(0, .ref (r 200)), (1, iv a0), (2, iv a1)] [] t := by
  unfold f_X12_dancer at h
  refine g_iload_n X dX12_dancer_0 1 rfl ?_
  refine g_iconst X dX12_dancer_1 ?_
  refine g_aload_n X dX12_dancer_2 0 rfl ?_
  refine g_getI X fM_37 rfl dX12_dancer_3 h (fun v1 h => ?_)
  refine g_iconst X dX12_dancer_6 ?_
  refine g_isub X dX12_dancer_7 ?_
  refine g_callsI (rest := []) X (fun u9 h9 => cp_X12_in l E r N a0 0 (v1 - 1) t u9 h9) yy_X12_in wdT_X12_in wdM_RX12_227 rfl rfl (Nat.le_of_ble_eq_true rfl) dX12_dancer_8 ⟨by decide, by decide⟩ ⟨rfl, rfl⟩ h (fun v3 t2 h => ?_)
  refine g_if_ne (tgt := 16) X dX12_dancer_11 (by decide) h (fun h => ?_) (fun h => ?_)
  · refine g_iload_n X dX12_dancer_16 2 rfl ?_
    refine g_if_ne (tgt := 29) X dX12_dancer_17 (by decide) h (fun h => ?_) (fun h => ?_)
    · refine g_iload_n X dX12_dancer_29 2 rfl ?_
      refine g_iconst X dX12_dancer_30 ?_
      refine g_icmp_ne (tgt := 43) X dX12_dancer_31 (by decide) h (fun h => ?_) (fun h => ?_)
      · refine g_iload_n X dX12_dancer_43 2 rfl ?_
        refine g_iconst X dX12_dancer_44 ?_
        refine g_icmp_ne (tgt := 57) X dX12_dancer_45 (by decide) h (fun h => ?_) (fun h => ?_)
        · refine g_iload_n X dX12_dancer_57 2 rfl ?_
          refine g_iconst X dX12_dancer_58 ?_
          refine g_icmp_ne (tgt := 71) X dX12_dancer_59 (by decide) h (fun h => ?_) (fun h => ?_)
          · refine g_iconst X dX12_dancer_71 ?_
            exact g_iret X h dX12_dancer_72
          · refine g_aload_n X dX12_dancer_62 0 rfl ?_
            refine g_getR X fM_41 rfl dX12_dancer_63 ?_
            refine g_iload_n X dX12_dancer_66 1 rfl ?_
            refine g_iald X aM_41 dX12_dancer_67 h (fun v4 h => ?_)
            refine g_goto (tgt := 72) X dX12_dancer_68 (by decide) ?_
            exact g_iret X h dX12_dancer_72
        · refine g_aload_n X dX12_dancer_48 0 rfl ?_
          refine g_getR X fM_40 rfl dX12_dancer_49 ?_
          refine g_iload_n X dX12_dancer_52 1 rfl ?_
          refine g_iald X aM_40 dX12_dancer_53 h (fun v5 h => ?_)
          refine g_goto (tgt := 72) X dX12_dancer_54 (by decide) ?_
          exact g_iret X h dX12_dancer_72
      · refine g_aload_n X dX12_dancer_34 0 rfl ?_
        refine g_getR X fM_39 rfl dX12_dancer_35 ?_
        refine g_iload_n X dX12_dancer_38 1 rfl ?_
        refine g_iald X aM_39 dX12_dancer_39 h (fun v6 h => ?_)
        refine g_goto (tgt := 72) X dX12_dancer_40 (by decide) ?_
        exact g_iret X h dX12_dancer_72
    · refine g_aload_n X dX12_dancer_20 0 rfl ?_
      refine g_getR X fM_38 rfl dX12_dancer_21 ?_
      refine g_iload_n X dX12_dancer_24 1 rfl ?_
      refine g_iald X aM_38 dX12_dancer_25 h (fun v7 h => ?_)
      refine g_goto (tgt := 72) X dX12_dancer_26 (by decide) ?_
      exact g_iret X h dX12_dancer_72
  · refine g_iconst X dX12_dancer_14 ?_
    exact g_iret X h dX12_dancer_15
set_option maxHeartbeats 4000000 in
set_option maxRecDepth 100000 in
theorem cp_X12_dancer (l : Launch) (E : cE) (r : Nat → Nat) (N : Nat) (a0 : Int) (a1 : Int) (t : St) (z : Int × St) (h : f_X12_dancer N a0 a1 t = some z) : cM l E yX12_dancer cX12_dancer 3 (some .int) rm_f_X12_dancer [.ref (r 200), iv a0, iv a1] (gW E r shM t) (gqI E (gW E r shM) z) := by
  refine g_of (w := gW E r shM) (by decide) (Nat.le_of_ble_eq_true rfl) ?_
  intro p e s m below meth c A X
  exact g_sub (lv' := [(0, .ref (r 200)), (1, iv a0), (2, iv a1)]) [0, 1, 2] rfl (b_f_X12_dancer X h)
theorem yy_X12_dancer : cY yX12_dancer cX12_dancer 3 (some .int) 2 := ⟨wdK_X12_dancer, wdZ_RX12, by decide +kernel⟩
theorem yi_X12_dancer : cYi yX12_dancer := ⟨wdN_X12_dancer, wdS_X12_dancer⟩
theorem dX12_at_0 : decode cX12_at 0 = .ok (.aload_n 0, 1) := by decide +kernel
theorem dX12_at_1 : decode cX12_at 1 = .ok (.iload_n 1, 1) := by decide +kernel
theorem dX12_at_2 : decode cX12_at 2 = .ok (.iload_n 2, 1) := by decide +kernel
theorem dX12_at_3 : decode cX12_at 3 = .ok (.invokevirtual 477, 3) := by decide +kernel
theorem dX12_at_6 : decode cX12_at 6 = .ok (.ireturn, 1) := by decide +kernel
abbrev rm_f_X12_at : Room := { frames := 1, cells := 0, slots := 0, locals := 23 }
def f_X12_at (N : Nat) (a0 : Int) (a1 : Int) (t : St) : Option (Int × St) :=
    bdI (f_X12_whoAt N a0 a1 t) fun v2 t1 =>
    some (v2, t1)
set_option maxHeartbeats 4000000 in
set_option maxRecDepth 100000 in
theorem b_f_X12_at {p : Program} {l : Launch} {e : Env} {s : State} {m : MethodId} {args : Array Value} {below : List Frame} {meth : Method} {c : Code} {E : cE} {A : Nat → Prop} {r : Nat → Nat} {mc ms : Nat} {z : Int × St} {N : Nat} {a0 : Int} {a1 : Int} {t : St} (X : gX p s m meth c cX12_at 3 (some .int) yX12_at args E A) (h : f_X12_at N a0 a1 t = some z) : gP p l e rm_f_X12_at s m args below meth c E A 3 (MQ below ((gqI E (gW E r shM) z) A) args s mc ms A) (gW E r shM) 0 [(0, .ref (r 200)), (1, iv a0), (2, iv a1)] [] t := by
  unfold f_X12_at at h
  refine g_aload_n X dX12_at_0 0 rfl ?_
  refine g_iload_n X dX12_at_1 1 rfl ?_
  refine g_iload_n X dX12_at_2 2 rfl ?_
  refine g_callI (rest := []) X (fun u9 h9 => cp_X12_whoAt l E r N a0 a1 t u9 h9) yy_X12_whoAt yi_X12_whoAt wdM_RX12_477 0 12 (gW_at oM) rfl rfl rfl (Nat.le_of_ble_eq_true rfl) dX12_at_3 ⟨by decide, by decide⟩ ⟨rfl, rfl⟩ h (fun v2 t1 h => ?_)
  exact g_iret X h dX12_at_6
set_option maxHeartbeats 4000000 in
set_option maxRecDepth 100000 in
theorem cp_X12_at (l : Launch) (E : cE) (r : Nat → Nat) (N : Nat) (a0 : Int) (a1 : Int) (t : St) (z : Int × St) (h : f_X12_at N a0 a1 t = some z) : cM l E yX12_at cX12_at 3 (some .int) rm_f_X12_at [.ref (r 200), iv a0, iv a1] (gW E r shM t) (gqI E (gW E r shM) z) := by
  refine g_of (w := gW E r shM) (by decide) (Nat.le_of_ble_eq_true rfl) ?_
  intro p e s m below meth c A X
  exact g_sub (lv' := [(0, .ref (r 200)), (1, iv a0), (2, iv a1)]) [0, 1, 2] rfl (b_f_X12_at X h)
theorem yy_X12_at : cY yX12_at cX12_at 3 (some .int) 2 := ⟨wdK_X12_at, wdZ_RX12, by decide +kernel⟩
theorem yi_X12_at : cYi yX12_at := ⟨wdN_X12_at, wdS_X12_at⟩
theorem dX12_about_0 : decode cX12_about 0 = .ok (.iload_n 1, 1) := by decide +kernel
theorem dX12_about_1 : decode cX12_about 1 = .ok (.tableswitch 165 0 13 #[71, 76, 81, 86, 91, 104, 117, 122, 127, 132, 137, 150, 155, 160], 71) := by decide +kernel
theorem dX12_about_72 : decode cX12_about 72 = .ok (.aload_n 0, 1) := by decide +kernel
theorem dX12_about_73 : decode cX12_about 73 = .ok (.getfield 231, 3) := by decide +kernel
theorem dX12_about_76 : decode cX12_about 76 = .ok (.ireturn, 1) := by decide +kernel
theorem dX12_about_77 : decode cX12_about 77 = .ok (.aload_n 0, 1) := by decide +kernel
theorem dX12_about_78 : decode cX12_about 78 = .ok (.getfield 252, 3) := by decide +kernel
theorem dX12_about_81 : decode cX12_about 81 = .ok (.ireturn, 1) := by decide +kernel
theorem dX12_about_82 : decode cX12_about 82 = .ok (.aload_n 0, 1) := by decide +kernel
theorem dX12_about_83 : decode cX12_about 83 = .ok (.getfield 255, 3) := by decide +kernel
theorem dX12_about_86 : decode cX12_about 86 = .ok (.ireturn, 1) := by decide +kernel
theorem dX12_about_87 : decode cX12_about 87 = .ok (.aload_n 0, 1) := by decide +kernel
theorem dX12_about_88 : decode cX12_about 88 = .ok (.getfield 238, 3) := by decide +kernel
theorem dX12_about_91 : decode cX12_about 91 = .ok (.ireturn, 1) := by decide +kernel
theorem dX12_about_92 : decode cX12_about 92 = .ok (.aload_n 0, 1) := by decide +kernel
theorem dX12_about_93 : decode cX12_about 93 = .ok (.invokevirtual 523, 3) := by decide +kernel
theorem dX12_about_96 : decode cX12_about 96 = .ok (.ifCond .eq 7, 3) := by decide +kernel
theorem dX12_about_99 : decode cX12_about 99 = .ok (.iconst 1, 1) := by decide +kernel
theorem dX12_about_100 : decode cX12_about 100 = .ok (.goto 4, 3) := by decide +kernel
theorem dX12_about_103 : decode cX12_about 103 = .ok (.iconst 0, 1) := by decide +kernel
theorem dX12_about_104 : decode cX12_about 104 = .ok (.ireturn, 1) := by decide +kernel
theorem dX12_about_105 : decode cX12_about 105 = .ok (.aload_n 0, 1) := by decide +kernel
theorem dX12_about_106 : decode cX12_about 106 = .ok (.invokevirtual 632, 3) := by decide +kernel
theorem dX12_about_109 : decode cX12_about 109 = .ok (.ifCond .eq 7, 3) := by decide +kernel
theorem dX12_about_112 : decode cX12_about 112 = .ok (.iconst 1, 1) := by decide +kernel
theorem dX12_about_113 : decode cX12_about 113 = .ok (.goto 4, 3) := by decide +kernel
theorem dX12_about_116 : decode cX12_about 116 = .ok (.iconst 0, 1) := by decide +kernel
theorem dX12_about_117 : decode cX12_about 117 = .ok (.ireturn, 1) := by decide +kernel
theorem dX12_about_118 : decode cX12_about 118 = .ok (.aload_n 0, 1) := by decide +kernel
theorem dX12_about_119 : decode cX12_about 119 = .ok (.getfield 362, 3) := by decide +kernel
theorem dX12_about_122 : decode cX12_about 122 = .ok (.ireturn, 1) := by decide +kernel
theorem dX12_about_123 : decode cX12_about 123 = .ok (.aload_n 0, 1) := by decide +kernel
theorem dX12_about_124 : decode cX12_about 124 = .ok (.getfield 375, 3) := by decide +kernel
theorem dX12_about_127 : decode cX12_about 127 = .ok (.ireturn, 1) := by decide +kernel
theorem dX12_about_128 : decode cX12_about 128 = .ok (.aload_n 0, 1) := by decide +kernel
theorem dX12_about_129 : decode cX12_about 129 = .ok (.getfield 386, 3) := by decide +kernel
theorem dX12_about_132 : decode cX12_about 132 = .ok (.ireturn, 1) := by decide +kernel
theorem dX12_about_133 : decode cX12_about 133 = .ok (.aload_n 0, 1) := by decide +kernel
theorem dX12_about_134 : decode cX12_about 134 = .ok (.getfield 392, 3) := by decide +kernel
theorem dX12_about_137 : decode cX12_about 137 = .ok (.ireturn, 1) := by decide +kernel
theorem dX12_about_138 : decode cX12_about 138 = .ok (.aload_n 0, 1) := by decide +kernel
theorem dX12_about_139 : decode cX12_about 139 = .ok (.getfield 241, 3) := by decide +kernel
theorem dX12_about_142 : decode cX12_about 142 = .ok (.ifCond .eq 7, 3) := by decide +kernel
theorem dX12_about_145 : decode cX12_about 145 = .ok (.iconst 1, 1) := by decide +kernel
theorem dX12_about_146 : decode cX12_about 146 = .ok (.goto 4, 3) := by decide +kernel
theorem dX12_about_149 : decode cX12_about 149 = .ok (.iconst 0, 1) := by decide +kernel
theorem dX12_about_150 : decode cX12_about 150 = .ok (.ireturn, 1) := by decide +kernel
theorem dX12_about_151 : decode cX12_about 151 = .ok (.aload_n 0, 1) := by decide +kernel
theorem dX12_about_152 : decode cX12_about 152 = .ok (.getfield 629, 3) := by decide +kernel
theorem dX12_about_155 : decode cX12_about 155 = .ok (.ireturn, 1) := by decide +kernel
theorem dX12_about_156 : decode cX12_about 156 = .ok (.aload_n 0, 1) := by decide +kernel
theorem dX12_about_157 : decode cX12_about 157 = .ok (.getfield 258, 3) := by decide +kernel
theorem dX12_about_160 : decode cX12_about 160 = .ok (.ireturn, 1) := by decide +kernel
theorem dX12_about_161 : decode cX12_about 161 = .ok (.aload_n 0, 1) := by decide +kernel
theorem dX12_about_162 : decode cX12_about 162 = .ok (.getfield 314, 3) := by decide +kernel
theorem dX12_about_165 : decode cX12_about 165 = .ok (.ireturn, 1) := by decide +kernel
theorem dX12_about_166 : decode cX12_about 166 = .ok (.iconst (-1), 1) := by decide +kernel
theorem dX12_about_167 : decode cX12_about 167 = .ok (.ireturn, 1) := by decide +kernel
abbrev rm_f_X12_about : Room := { frames := 1, cells := 0, slots := 0, locals := 22 }
def f_X12_about (N : Nat) (a0 : Int) (t : St) : Option (Int × St) :=
    rnI a0 (if a0 = 0 then (lt1 (t.1 200 37) fun v1 =>
    some (v1, t))
    else (if a0 = 1 then (lt1 (t.1 200 42) fun v2 =>
    some (v2, t))
    else (if a0 = 2 then (lt1 (t.1 200 43) fun v3 =>
    some (v3, t))
    else (if a0 = 3 then (lt1 (t.1 200 59) fun v4 =>
    some (v4, t))
    else (if a0 = 4 then (bdI (f_X12_isHome N t) fun v6 t5 =>
    cmpI v6 0 (if v6 = 0 then (some (0, t5))
    else (some (1, t5))))
    else (if a0 = 5 then (bdI (f_X12_isAim N t) fun v8 t7 =>
    cmpI v8 0 (if v8 = 0 then (some (0, t7))
    else (some (1, t7))))
    else (if a0 = 6 then (lt1 (t.1 200 14) fun v9 =>
    some (v9, t))
    else (if a0 = 7 then (lt1 (t.1 200 15) fun v10 =>
    some (v10, t))
    else (if a0 = 8 then (lt1 (t.1 200 16) fun v11 =>
    some (v11, t))
    else (if a0 = 9 then (lt1 (t.1 200 17) fun v12 =>
    some (v12, t))
    else (if a0 = 10 then (lt1 (t.1 200 50) fun v13 =>
    cmpI v13 0 (if v13 = 0 then (some (0, t))
    else (some (1, t))))
    else (if a0 = 11 then (lt1 (t.1 200 89) fun v14 =>
    some (v14, t))
    else (if a0 = 12 then (lt1 (t.1 200 1) fun v15 =>
    some (v15, t))
    else (if a0 = 13 then (lt1 (t.1 200 33) fun v16 =>
    some (v16, t))
    else (some ((-1), t))))))))))))))))
set_option maxHeartbeats 4000000 in
set_option maxRecDepth 100000 in
theorem b_f_X12_about {p : Program} {l : Launch} {e : Env} {s : State} {m : MethodId} {args : Array Value} {below : List Frame} {meth : Method} {c : Code} {E : cE} {A : Nat → Prop} {r : Nat → Nat} {mc ms : Nat} {z : Int × St} {N : Nat} {a0 : Int} {t : St} (X : gX p s m meth c cX12_about 2 (some .int) yX12_about args E A) (h : f_X12_about N a0 t = some z) : gP p l e rm_f_X12_about s m args below meth c E A 2 (MQ below ((gqI E (gW E r shM) z) A) args s mc ms A) (gW E r shM) 0 [(0, .ref (r 200)), (1, iv a0)] [] t := by
  unfold f_X12_about at h
  refine g_iload_n X dX12_about_0 1 rfl ?_
  obtain ⟨hr9, h⟩ := rnI_some h
  by_cases e9_0 : a0 = 0
  · rw [if_pos e9_0] at h
    refine g_tableIn X (tgt := 72) (off := 71) dX12_about_1 (k := 0) hr9 e9_0 (by decide) (by decide) rfl (by decide) ?_
    refine g_aload_n X dX12_about_72 0 rfl ?_
    refine g_getI X fM_37 rfl dX12_about_73 h (fun v1 h => ?_)
    exact g_iret X h dX12_about_76
  · rw [if_neg e9_0] at h
    by_cases e9_1 : a0 = 1
    · rw [if_pos e9_1] at h
      refine g_tableIn X (tgt := 77) (off := 76) dX12_about_1 (k := 1) hr9 e9_1 (by decide) (by decide) rfl (by decide) ?_
      refine g_aload_n X dX12_about_77 0 rfl ?_
      refine g_getI X fM_42 rfl dX12_about_78 h (fun v2 h => ?_)
      exact g_iret X h dX12_about_81
    · rw [if_neg e9_1] at h
      by_cases e9_2 : a0 = 2
      · rw [if_pos e9_2] at h
        refine g_tableIn X (tgt := 82) (off := 81) dX12_about_1 (k := 2) hr9 e9_2 (by decide) (by decide) rfl (by decide) ?_
        refine g_aload_n X dX12_about_82 0 rfl ?_
        refine g_getI X fM_43 rfl dX12_about_83 h (fun v3 h => ?_)
        exact g_iret X h dX12_about_86
      · rw [if_neg e9_2] at h
        by_cases e9_3 : a0 = 3
        · rw [if_pos e9_3] at h
          refine g_tableIn X (tgt := 87) (off := 86) dX12_about_1 (k := 3) hr9 e9_3 (by decide) (by decide) rfl (by decide) ?_
          refine g_aload_n X dX12_about_87 0 rfl ?_
          refine g_getI X fM_59 rfl dX12_about_88 h (fun v4 h => ?_)
          exact g_iret X h dX12_about_91
        · rw [if_neg e9_3] at h
          by_cases e9_4 : a0 = 4
          · rw [if_pos e9_4] at h
            refine g_tableIn X (tgt := 92) (off := 91) dX12_about_1 (k := 4) hr9 e9_4 (by decide) (by decide) rfl (by decide) ?_
            refine g_aload_n X dX12_about_92 0 rfl ?_
            refine g_callI (rest := []) X (fun u9 h9 => cp_X12_isHome l E r N t u9 h9) yy_X12_isHome yi_X12_isHome wdM_RX12_523 0 12 (gW_at oM) rfl rfl rfl (Nat.le_of_ble_eq_true rfl) dX12_about_93 ⟨by decide, by decide⟩ ⟨rfl, rfl⟩ h (fun v6 t5 h => ?_)
            refine g_if_eq (tgt := 103) X dX12_about_96 (by decide) h (fun h => ?_) (fun h => ?_)
            · refine g_iconst X dX12_about_103 ?_
              exact g_iret X h dX12_about_104
            · refine g_iconst X dX12_about_99 ?_
              refine g_goto (tgt := 104) X dX12_about_100 (by decide) ?_
              exact g_iret X h dX12_about_104
          · rw [if_neg e9_4] at h
            by_cases e9_5 : a0 = 5
            · rw [if_pos e9_5] at h
              refine g_tableIn X (tgt := 105) (off := 104) dX12_about_1 (k := 5) hr9 e9_5 (by decide) (by decide) rfl (by decide) ?_
              refine g_aload_n X dX12_about_105 0 rfl ?_
              refine g_callI (rest := []) X (fun u9 h9 => cp_X12_isAim l E r N t u9 h9) yy_X12_isAim yi_X12_isAim wdM_RX12_632 0 12 (gW_at oM) rfl rfl rfl (Nat.le_of_ble_eq_true rfl) dX12_about_106 ⟨by decide, by decide⟩ ⟨rfl, rfl⟩ h (fun v8 t7 h => ?_)
              refine g_if_eq (tgt := 116) X dX12_about_109 (by decide) h (fun h => ?_) (fun h => ?_)
              · refine g_iconst X dX12_about_116 ?_
                exact g_iret X h dX12_about_117
              · refine g_iconst X dX12_about_112 ?_
                refine g_goto (tgt := 117) X dX12_about_113 (by decide) ?_
                exact g_iret X h dX12_about_117
            · rw [if_neg e9_5] at h
              by_cases e9_6 : a0 = 6
              · rw [if_pos e9_6] at h
                refine g_tableIn X (tgt := 118) (off := 117) dX12_about_1 (k := 6) hr9 e9_6 (by decide) (by decide) rfl (by decide) ?_
                refine g_aload_n X dX12_about_118 0 rfl ?_
                refine g_getI X fM_14 rfl dX12_about_119 h (fun v9 h => ?_)
                exact g_iret X h dX12_about_122
              · rw [if_neg e9_6] at h
                by_cases e9_7 : a0 = 7
                · rw [if_pos e9_7] at h
                  refine g_tableIn X (tgt := 123) (off := 122) dX12_about_1 (k := 7) hr9 e9_7 (by decide) (by decide) rfl (by decide) ?_
                  refine g_aload_n X dX12_about_123 0 rfl ?_
                  refine g_getI X fM_15 rfl dX12_about_124 h (fun v10 h => ?_)
                  exact g_iret X h dX12_about_127
                · rw [if_neg e9_7] at h
                  by_cases e9_8 : a0 = 8
                  · rw [if_pos e9_8] at h
                    refine g_tableIn X (tgt := 128) (off := 127) dX12_about_1 (k := 8) hr9 e9_8 (by decide) (by decide) rfl (by decide) ?_
                    refine g_aload_n X dX12_about_128 0 rfl ?_
                    refine g_getI X fM_16 rfl dX12_about_129 h (fun v11 h => ?_)
                    exact g_iret X h dX12_about_132
                  · rw [if_neg e9_8] at h
                    by_cases e9_9 : a0 = 9
                    · rw [if_pos e9_9] at h
                      refine g_tableIn X (tgt := 133) (off := 132) dX12_about_1 (k := 9) hr9 e9_9 (by decide) (by decide) rfl (by decide) ?_
                      refine g_aload_n X dX12_about_133 0 rfl ?_
                      refine g_getI X fM_17 rfl dX12_about_134 h (fun v12 h => ?_)
                      exact g_iret X h dX12_about_137
                    · rw [if_neg e9_9] at h
                      by_cases e9_10 : a0 = 10
                      · rw [if_pos e9_10] at h
                        refine g_tableIn X (tgt := 138) (off := 137) dX12_about_1 (k := 10) hr9 e9_10 (by decide) (by decide) rfl (by decide) ?_
                        refine g_aload_n X dX12_about_138 0 rfl ?_
                        refine g_getI X fM_50 rfl dX12_about_139 h (fun v13 h => ?_)
                        refine g_if_eq (tgt := 149) X dX12_about_142 (by decide) h (fun h => ?_) (fun h => ?_)
                        · refine g_iconst X dX12_about_149 ?_
                          exact g_iret X h dX12_about_150
                        · refine g_iconst X dX12_about_145 ?_
                          refine g_goto (tgt := 150) X dX12_about_146 (by decide) ?_
                          exact g_iret X h dX12_about_150
                      · rw [if_neg e9_10] at h
                        by_cases e9_11 : a0 = 11
                        · rw [if_pos e9_11] at h
                          refine g_tableIn X (tgt := 151) (off := 150) dX12_about_1 (k := 11) hr9 e9_11 (by decide) (by decide) rfl (by decide) ?_
                          refine g_aload_n X dX12_about_151 0 rfl ?_
                          refine g_getI X fM_89 rfl dX12_about_152 h (fun v14 h => ?_)
                          exact g_iret X h dX12_about_155
                        · rw [if_neg e9_11] at h
                          by_cases e9_12 : a0 = 12
                          · rw [if_pos e9_12] at h
                            refine g_tableIn X (tgt := 156) (off := 155) dX12_about_1 (k := 12) hr9 e9_12 (by decide) (by decide) rfl (by decide) ?_
                            refine g_aload_n X dX12_about_156 0 rfl ?_
                            refine g_getI X fM_1 rfl dX12_about_157 h (fun v15 h => ?_)
                            exact g_iret X h dX12_about_160
                          · rw [if_neg e9_12] at h
                            by_cases e9_13 : a0 = 13
                            · rw [if_pos e9_13] at h
                              refine g_tableIn X (tgt := 161) (off := 160) dX12_about_1 (k := 13) hr9 e9_13 (by decide) (by decide) rfl (by decide) ?_
                              refine g_aload_n X dX12_about_161 0 rfl ?_
                              refine g_getI X fM_33 rfl dX12_about_162 h (fun v16 h => ?_)
                              exact g_iret X h dX12_about_165
                            · rw [if_neg e9_13] at h
                              refine g_tableOut X (tgt := 166) dX12_about_1 hr9 (by omega) (by decide) ?_
                              refine g_iconst X dX12_about_166 ?_
                              exact g_iret X h dX12_about_167
set_option maxHeartbeats 4000000 in
set_option maxRecDepth 100000 in
theorem cp_X12_about (l : Launch) (E : cE) (r : Nat → Nat) (N : Nat) (a0 : Int) (t : St) (z : Int × St) (h : f_X12_about N a0 t = some z) : cM l E yX12_about cX12_about 2 (some .int) rm_f_X12_about [.ref (r 200), iv a0] (gW E r shM t) (gqI E (gW E r shM) z) := by
  refine g_of (w := gW E r shM) (by decide) (Nat.le_of_ble_eq_true rfl) ?_
  intro p e s m below meth c A X
  exact g_sub (lv' := [(0, .ref (r 200)), (1, iv a0)]) [0, 1] rfl (b_f_X12_about X h)
theorem yy_X12_about : cY yX12_about cX12_about 2 (some .int) 1 := ⟨wdK_X12_about, wdZ_RX12, by decide +kernel⟩
theorem yi_X12_about : cYi yX12_about := ⟨wdN_X12_about, wdS_X12_about⟩
