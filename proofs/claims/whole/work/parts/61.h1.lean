theorem dX0_namesOf_0 : decode cX0_namesOf 0 = .ok (.iload_n 1, 1) := by decide +kernel
theorem dX0_namesOf_1 : decode cX0_namesOf 1 = .ok (.ifCond .ne 10, 3) := by decide +kernel
theorem dX0_namesOf_4 : decode cX0_namesOf 4 = .ok (.aload_n 0, 1) := by decide +kernel
theorem dX0_namesOf_5 : decode cX0_namesOf 5 = .ok (.getfield 14, 3) := by decide +kernel
theorem dX0_namesOf_8 : decode cX0_namesOf 8 = .ok (.goto 19, 3) := by decide +kernel
theorem dX0_namesOf_11 : decode cX0_namesOf 11 = .ok (.iload_n 1, 1) := by decide +kernel
theorem dX0_namesOf_12 : decode cX0_namesOf 12 = .ok (.iconst 1, 1) := by decide +kernel
theorem dX0_namesOf_13 : decode cX0_namesOf 13 = .ok (.if_icmp .ne 10, 3) := by decide +kernel
theorem dX0_namesOf_16 : decode cX0_namesOf 16 = .ok (.aload_n 0, 1) := by decide +kernel
theorem dX0_namesOf_17 : decode cX0_namesOf 17 = .ok (.getfield 20, 3) := by decide +kernel
theorem dX0_namesOf_20 : decode cX0_namesOf 20 = .ok (.goto 7, 3) := by decide +kernel
theorem dX0_namesOf_23 : decode cX0_namesOf 23 = .ok (.aload_n 0, 1) := by decide +kernel
theorem dX0_namesOf_24 : decode cX0_namesOf 24 = .ok (.getfield 23, 3) := by decide +kernel
theorem dX0_namesOf_27 : decode cX0_namesOf 27 = .ok (.areturn, 1) := by decide +kernel
abbrev rm_f_X0_namesOf : Room := { frames := 0, cells := 0, slots := 0, locals := 0 }
def f_X0_namesOf (N : Nat) (a0 : Int) (t : St) : Option (Int × St) :=
    cmpI a0 0 (if a0 = 0 then (some (((0 : Nat) : Int), t))
    else (cmpI a0 1 (if a0 = 1 then (some (((1 : Nat) : Int), t))
    else (some (((2 : Nat) : Int), t)))))
set_option maxHeartbeats 4000000 in
set_option maxRecDepth 100000 in
theorem b_f_X0_namesOf {p : Program} {l : Launch} {e : Env} {s : State} {m : MethodId} {args : Array Value} {below : List Frame} {meth : Method} {c : Code} {E : cE} {A : Nat → Prop} {r : Nat → Nat} {mc ms : Nat} {z : Int × St} {N : Nat} {a0 : Int} {t : St} (X : gX p s m meth c cX0_namesOf 2 (some (.object "CallerHall$Names")) yX0_namesOf args E A) (h : f_X0_namesOf N a0 t = some z) : gP p l e rm_f_X0_namesOf s m args below meth c E A 2 (MQ below ((gqN E r (gW E r shH) z) A) args s mc ms A) (gW E r shH) 0 [(0, .ref (r 302)), (1, iv a0)] [] t := by
  unfold f_X0_namesOf at h
  refine g_iload_n X dX0_namesOf_0 1 rfl ?_
  refine g_if_ne (tgt := 11) X dX0_namesOf_1 (by decide) h (fun h => ?_) (fun h => ?_)
  · refine g_iload_n X dX0_namesOf_11 1 rfl ?_
    refine g_iconst X dX0_namesOf_12 ?_
    refine g_icmp_ne (tgt := 23) X dX0_namesOf_13 (by decide) h (fun h => ?_) (fun h => ?_)
    · refine g_aload_n X dX0_namesOf_23 0 rfl ?_
      refine g_getR X fH_X0_23_302 rfl dX0_namesOf_24 ?_
      exact g_nret (o := 2) X (by decide) h dX0_namesOf_27
    · refine g_aload_n X dX0_namesOf_16 0 rfl ?_
      refine g_getR X fH_X0_20_302 rfl dX0_namesOf_17 ?_
      refine g_goto (tgt := 27) X dX0_namesOf_20 (by decide) ?_
      exact g_nret (o := 1) X (by decide) h dX0_namesOf_27
  · refine g_aload_n X dX0_namesOf_4 0 rfl ?_
    refine g_getR X fH_X0_14_302 rfl dX0_namesOf_5 ?_
    refine g_goto (tgt := 27) X dX0_namesOf_8 (by decide) ?_
    exact g_nret (o := 0) X (by decide) h dX0_namesOf_27
set_option maxHeartbeats 4000000 in
set_option maxRecDepth 100000 in
theorem cp_X0_namesOf (l : Launch) (E : cE) (r : Nat → Nat) (N : Nat) (a0 : Int) (t : St) (z : Int × St) (h : f_X0_namesOf N a0 t = some z) : cM l E yX0_namesOf cX0_namesOf 2 (some (.object "CallerHall$Names")) rm_f_X0_namesOf [.ref (r 302), iv a0] (gW E r shH t) (gqN E r (gW E r shH) z) := by
  refine g_of (w := gW E r shH) (by decide) (Nat.le_of_ble_eq_true rfl) ?_
  intro p e s m below meth c A X
  exact g_sub (lv' := [(0, .ref (r 302)), (1, iv a0)]) [0, 1] rfl (b_f_X0_namesOf X h)
theorem yy_X0_namesOf : cY yX0_namesOf cX0_namesOf 2 (some (.object "CallerHall$Names")) 1 := ⟨wdK_X0_namesOf, wdZ_RX0, by decide +kernel⟩
theorem yi_X0_namesOf : cYi yX0_namesOf := ⟨wdN_X0_namesOf, wdS_X0_namesOf⟩
theorem dX0_kindAt_0 : decode cX0_kindAt 0 = .ok (.iload_n 1, 1) := by decide +kernel
theorem dX0_kindAt_1 : decode cX0_kindAt 1 = .ok (.ifCond .lt 23, 3) := by decide +kernel
theorem dX0_kindAt_4 : decode cX0_kindAt 4 = .ok (.iload_n 1, 1) := by decide +kernel
theorem dX0_kindAt_5 : decode cX0_kindAt 5 = .ok (.aload_n 0, 1) := by decide +kernel
theorem dX0_kindAt_6 : decode cX0_kindAt 6 = .ok (.getfield 69, 3) := by decide +kernel
theorem dX0_kindAt_9 : decode cX0_kindAt 9 = .ok (.if_icmp .ge 15, 3) := by decide +kernel
theorem dX0_kindAt_12 : decode cX0_kindAt 12 = .ok (.aload_n 0, 1) := by decide +kernel
theorem dX0_kindAt_13 : decode cX0_kindAt 13 = .ok (.getfield 66, 3) := by decide +kernel
theorem dX0_kindAt_16 : decode cX0_kindAt 16 = .ok (.iload_n 1, 1) := by decide +kernel
theorem dX0_kindAt_17 : decode cX0_kindAt 17 = .ok (.iaload, 1) := by decide +kernel
theorem dX0_kindAt_18 : decode cX0_kindAt 18 = .ok (.bipush 63, 2) := by decide +kernel
theorem dX0_kindAt_20 : decode cX0_kindAt 20 = .ok (.iand, 1) := by decide +kernel
theorem dX0_kindAt_21 : decode cX0_kindAt 21 = .ok (.goto 5, 3) := by decide +kernel
theorem dX0_kindAt_24 : decode cX0_kindAt 24 = .ok (.bipush 29, 2) := by decide +kernel
theorem dX0_kindAt_26 : decode cX0_kindAt 26 = .ok (.ireturn, 1) := by decide +kernel
abbrev rm_f_X0_kindAt : Room := { frames := 0, cells := 0, slots := 0, locals := 0 }
def f_X0_kindAt (N : Nat) (a0 : Int) (t : St) : Option (Int × St) :=
    cmpI a0 0 (if a0 < 0 then (some (29, t))
    else (lt1 (t.1 302 18) fun v1 =>
    cmpI a0 v1 (if a0 < v1 then (ixI a0 10098 (lt1 (t.1 363 a0.toNat) fun v2 =>
    some (v2 % 64, t)))
    else (some (29, t)))))
set_option maxHeartbeats 4000000 in
set_option maxRecDepth 100000 in
theorem b_f_X0_kindAt {p : Program} {l : Launch} {e : Env} {s : State} {m : MethodId} {args : Array Value} {below : List Frame} {meth : Method} {c : Code} {E : cE} {A : Nat → Prop} {r : Nat → Nat} {mc ms : Nat} {z : Int × St} {N : Nat} {a0 : Int} {t : St} (X : gX p s m meth c cX0_kindAt 2 (some .int) yX0_kindAt args E A) (h : f_X0_kindAt N a0 t = some z) : gP p l e rm_f_X0_kindAt s m args below meth c E A 2 (MQ below ((gqI E (gW E r shH) z) A) args s mc ms A) (gW E r shH) 0 [(0, .ref (r 302)), (1, iv a0)] [] t := by
  unfold f_X0_kindAt at h
  refine g_iload_n X dX0_kindAt_0 1 rfl ?_
  refine g_if_lt (tgt := 24) X dX0_kindAt_1 (by decide) h (fun h => ?_) (fun h => ?_)
  · refine g_bipush X dX0_kindAt_24 (by decide) ?_
    exact g_iret X h dX0_kindAt_26
  · refine g_iload_n X dX0_kindAt_4 1 rfl ?_
    refine g_aload_n X dX0_kindAt_5 0 rfl ?_
    refine g_getI X fH_X0_69_302 rfl dX0_kindAt_6 h (fun v1 h => ?_)
    refine g_icmp_ge (tgt := 24) X dX0_kindAt_9 (by decide) h (fun h => ?_) (fun h => ?_)
    · refine g_bipush X dX0_kindAt_24 (by decide) ?_
      exact g_iret X h dX0_kindAt_26
    · refine g_aload_n X dX0_kindAt_12 0 rfl ?_
      refine g_getR X fH_X0_66_302 rfl dX0_kindAt_13 ?_
      refine g_iload_n X dX0_kindAt_16 1 rfl ?_
      refine g_iald X aH_363 dX0_kindAt_17 h (fun v2 h => ?_)
      refine g_bipush X dX0_kindAt_18 (by decide) ?_
      refine g_mask X 6 (by decide) (M := 64) (by decide) (by decide) dX0_kindAt_20 ?_
      refine g_goto (tgt := 26) X dX0_kindAt_21 (by decide) ?_
      exact g_iret X h dX0_kindAt_26
set_option maxHeartbeats 4000000 in
set_option maxRecDepth 100000 in
theorem cp_X0_kindAt (l : Launch) (E : cE) (r : Nat → Nat) (N : Nat) (a0 : Int) (t : St) (z : Int × St) (h : f_X0_kindAt N a0 t = some z) : cM l E yX0_kindAt cX0_kindAt 2 (some .int) rm_f_X0_kindAt [.ref (r 302), iv a0] (gW E r shH t) (gqI E (gW E r shH) z) := by
  refine g_of (w := gW E r shH) (by decide) (Nat.le_of_ble_eq_true rfl) ?_
  intro p e s m below meth c A X
  exact g_sub (lv' := [(0, .ref (r 302)), (1, iv a0)]) [0, 1] rfl (b_f_X0_kindAt X h)
theorem yy_X0_kindAt : cY yX0_kindAt cX0_kindAt 2 (some .int) 1 := ⟨wdK_X0_kindAt, wdZ_RX0, by decide +kernel⟩
theorem yi_X0_kindAt : cYi yX0_kindAt := ⟨wdN_X0_kindAt, wdS_X0_kindAt⟩
theorem dX0_valueAt_0 : decode cX0_valueAt 0 = .ok (.iload_n 1, 1) := by decide +kernel
theorem dX0_valueAt_1 : decode cX0_valueAt 1 = .ok (.ifCond .lt 23, 3) := by decide +kernel
theorem dX0_valueAt_4 : decode cX0_valueAt 4 = .ok (.iload_n 1, 1) := by decide +kernel
theorem dX0_valueAt_5 : decode cX0_valueAt 5 = .ok (.aload_n 0, 1) := by decide +kernel
theorem dX0_valueAt_6 : decode cX0_valueAt 6 = .ok (.getfield 69, 3) := by decide +kernel
theorem dX0_valueAt_9 : decode cX0_valueAt 9 = .ok (.if_icmp .ge 15, 3) := by decide +kernel
theorem dX0_valueAt_12 : decode cX0_valueAt 12 = .ok (.aload_n 0, 1) := by decide +kernel
theorem dX0_valueAt_13 : decode cX0_valueAt 13 = .ok (.getfield 66, 3) := by decide +kernel
theorem dX0_valueAt_16 : decode cX0_valueAt 16 = .ok (.iload_n 1, 1) := by decide +kernel
theorem dX0_valueAt_17 : decode cX0_valueAt 17 = .ok (.iaload, 1) := by decide +kernel
theorem dX0_valueAt_18 : decode cX0_valueAt 18 = .ok (.bipush 6, 2) := by decide +kernel
theorem dX0_valueAt_20 : decode cX0_valueAt 20 = .ok (.ishr, 1) := by decide +kernel
theorem dX0_valueAt_21 : decode cX0_valueAt 21 = .ok (.goto 4, 3) := by decide +kernel
theorem dX0_valueAt_24 : decode cX0_valueAt 24 = .ok (.iconst 0, 1) := by decide +kernel
theorem dX0_valueAt_25 : decode cX0_valueAt 25 = .ok (.ireturn, 1) := by decide +kernel
abbrev rm_f_X0_valueAt : Room := { frames := 0, cells := 0, slots := 0, locals := 0 }
def f_X0_valueAt (N : Nat) (a0 : Int) (t : St) : Option (Int × St) :=
    cmpI a0 0 (if a0 < 0 then (some (0, t))
    else (lt1 (t.1 302 18) fun v1 =>
    cmpI a0 v1 (if a0 < v1 then (ixI a0 10098 (lt1 (t.1 363 a0.toNat) fun v2 =>
    rnI v2 (
    some (v2 / 64, t))))
    else (some (0, t)))))
set_option maxHeartbeats 4000000 in
set_option maxRecDepth 100000 in
theorem b_f_X0_valueAt {p : Program} {l : Launch} {e : Env} {s : State} {m : MethodId} {args : Array Value} {below : List Frame} {meth : Method} {c : Code} {E : cE} {A : Nat → Prop} {r : Nat → Nat} {mc ms : Nat} {z : Int × St} {N : Nat} {a0 : Int} {t : St} (X : gX p s m meth c cX0_valueAt 2 (some .int) yX0_valueAt args E A) (h : f_X0_valueAt N a0 t = some z) : gP p l e rm_f_X0_valueAt s m args below meth c E A 2 (MQ below ((gqI E (gW E r shH) z) A) args s mc ms A) (gW E r shH) 0 [(0, .ref (r 302)), (1, iv a0)] [] t := by
  unfold f_X0_valueAt at h
  refine g_iload_n X dX0_valueAt_0 1 rfl ?_
  refine g_if_lt (tgt := 24) X dX0_valueAt_1 (by decide) h (fun h => ?_) (fun h => ?_)
  · refine g_iconst X dX0_valueAt_24 ?_
    exact g_iret X h dX0_valueAt_25
  · refine g_iload_n X dX0_valueAt_4 1 rfl ?_
    refine g_aload_n X dX0_valueAt_5 0 rfl ?_
    refine g_getI X fH_X0_69_302 rfl dX0_valueAt_6 h (fun v1 h => ?_)
    refine g_icmp_ge (tgt := 24) X dX0_valueAt_9 (by decide) h (fun h => ?_) (fun h => ?_)
    · refine g_iconst X dX0_valueAt_24 ?_
      exact g_iret X h dX0_valueAt_25
    · refine g_aload_n X dX0_valueAt_12 0 rfl ?_
      refine g_getR X fH_X0_66_302 rfl dX0_valueAt_13 ?_
      refine g_iload_n X dX0_valueAt_16 1 rfl ?_
      refine g_iald X aH_363 dX0_valueAt_17 h (fun v2 h => ?_)
      refine g_bipush X dX0_valueAt_18 (by decide) ?_
      refine g_shr X 6 (by decide) (M := 64) (by decide) (by decide) dX0_valueAt_20 h (fun h => ?_)
      refine g_goto (tgt := 25) X dX0_valueAt_21 (by decide) ?_
      exact g_iret X h dX0_valueAt_25
set_option maxHeartbeats 4000000 in
set_option maxRecDepth 100000 in
theorem cp_X0_valueAt (l : Launch) (E : cE) (r : Nat → Nat) (N : Nat) (a0 : Int) (t : St) (z : Int × St) (h : f_X0_valueAt N a0 t = some z) : cM l E yX0_valueAt cX0_valueAt 2 (some .int) rm_f_X0_valueAt [.ref (r 302), iv a0] (gW E r shH t) (gqI E (gW E r shH) z) := by
  refine g_of (w := gW E r shH) (by decide) (Nat.le_of_ble_eq_true rfl) ?_
  intro p e s m below meth c A X
  exact g_sub (lv' := [(0, .ref (r 302)), (1, iv a0)]) [0, 1] rfl (b_f_X0_valueAt X h)
theorem yy_X0_valueAt : cY yX0_valueAt cX0_valueAt 2 (some .int) 1 := ⟨wdK_X0_valueAt, wdZ_RX0, by decide +kernel⟩
theorem yi_X0_valueAt : cYi yX0_valueAt := ⟨wdN_X0_valueAt, wdS_X0_valueAt⟩
theorem dX0_put_0 : decode cX0_put 0 = .ok (.aload_n 0, 1) := by decide +kernel
theorem dX0_put_1 : decode cX0_put 1 = .ok (.getfield 69, 3) := by decide +kernel
theorem dX0_put_4 : decode cX0_put 4 = .ok (.istore_n 3, 1) := by decide +kernel
theorem dX0_put_5 : decode cX0_put 5 = .ok (.iload_n 3, 1) := by decide +kernel
theorem dX0_put_6 : decode cX0_put 6 = .ok (.aload_n 0, 1) := by decide +kernel
theorem dX0_put_7 : decode cX0_put 7 = .ok (.getfield 66, 3) := by decide +kernel
theorem dX0_put_10 : decode cX0_put 10 = .ok (.arraylength, 1) := by decide +kernel
theorem dX0_put_11 : decode cX0_put 11 = .ok (.if_icmp .ge 25, 3) := by decide +kernel
theorem dX0_put_14 : decode cX0_put 14 = .ok (.aload_n 0, 1) := by decide +kernel
theorem dX0_put_15 : decode cX0_put 15 = .ok (.getfield 66, 3) := by decide +kernel
theorem dX0_put_18 : decode cX0_put 18 = .ok (.iload_n 3, 1) := by decide +kernel
theorem dX0_put_19 : decode cX0_put 19 = .ok (.iload_n 2, 1) := by decide +kernel
theorem dX0_put_20 : decode cX0_put 20 = .ok (.bipush 6, 2) := by decide +kernel
theorem dX0_put_22 : decode cX0_put 22 = .ok (.ishl, 1) := by decide +kernel
theorem dX0_put_23 : decode cX0_put 23 = .ok (.iload_n 1, 1) := by decide +kernel
theorem dX0_put_24 : decode cX0_put 24 = .ok (.ior, 1) := by decide +kernel
theorem dX0_put_25 : decode cX0_put 25 = .ok (.iastore, 1) := by decide +kernel
theorem dX0_put_26 : decode cX0_put 26 = .ok (.aload_n 0, 1) := by decide +kernel
theorem dX0_put_27 : decode cX0_put 27 = .ok (.dup, 1) := by decide +kernel
theorem dX0_put_28 : decode cX0_put 28 = .ok (.getfield 69, 3) := by decide +kernel
theorem dX0_put_31 : decode cX0_put 31 = .ok (.iconst 1, 1) := by decide +kernel
theorem dX0_put_32 : decode cX0_put 32 = .ok (.iadd, 1) := by decide +kernel
theorem dX0_put_33 : decode cX0_put 33 = .ok (.putfield 69, 3) := by decide +kernel
theorem dX0_put_36 : decode cX0_put 36 = .ok (.iload_n 3, 1) := by decide +kernel
theorem dX0_put_37 : decode cX0_put 37 = .ok (.ireturn, 1) := by decide +kernel
abbrev rm_f_X0_put : Room := { frames := 0, cells := 0, slots := 0, locals := 0 }
def f_X0_put (N : Nat) (a0 : Int) (a1 : Int) (t : St) : Option (Int × St) :=
    lt1 (t.1 302 18) fun v1 =>
    cmpI v1 10098 (if v1 < 10098 then (ixI v1 10098 (lt1 (pI t 363 v1.toNat (iorZ (a1 * 64) a0)) fun t2 =>
    lt1 (t2.1 302 18) fun v3 =>
    lt1 (pI t2 302 18 (v3 + 1)) fun t4 =>
    some (v1, t4)))
    else (some (v1, t)))
set_option maxHeartbeats 4000000 in
set_option maxRecDepth 100000 in
theorem b_f_X0_put {p : Program} {l : Launch} {e : Env} {s : State} {m : MethodId} {args : Array Value} {below : List Frame} {meth : Method} {c : Code} {E : cE} {A : Nat → Prop} {r : Nat → Nat} {mc ms : Nat} {z : Int × St} {N : Nat} {a0 : Int} {a1 : Int} {t : St} (X : gX p s m meth c cX0_put 4 (some .int) yX0_put args E A) (h : f_X0_put N a0 a1 t = some z) : gP p l e rm_f_X0_put s m args below meth c E A 4 (MQ below ((gqI E (gW E r shH) z) A) args s mc ms A) (gW E r shH) 0 [(0, .ref (r 302)), (1, iv a0), (2, iv a1)] [] t := by
  unfold f_X0_put at h
  refine g_aload_n X dX0_put_0 0 rfl ?_
  refine g_getI X fH_X0_69_302 rfl dX0_put_1 h (fun v1 h => ?_)
  refine g_istore_n (lv' := [(3, iv v1), (0, .ref (r 302)), (1, iv a0), (2, iv a1)]) X dX0_put_4 rfl (by decide) rfl ?_
  refine g_iload_n X dX0_put_5 0 rfl ?_
  refine g_aload_n X dX0_put_6 1 rfl ?_
  refine g_getR X fH_X0_66_302 rfl dX0_put_7 ?_
  refine g_alen1 X aH_363 dX0_put_10 ?_
  refine g_icmp_ge (tgt := 36) X dX0_put_11 (by decide) h (fun h => ?_) (fun h => ?_)
  · refine g_iload_n X dX0_put_36 0 rfl ?_
    exact g_iret X h dX0_put_37
  · refine g_aload_n X dX0_put_14 1 rfl ?_
    refine g_getR X fH_X0_66_302 rfl dX0_put_15 ?_
    refine g_iload_n X dX0_put_18 0 rfl ?_
    refine g_iload_n X dX0_put_19 3 rfl ?_
    refine g_bipush X dX0_put_20 (by decide) ?_
    refine g_shl X 6 (by decide) (M := 64) (by decide) (by decide) dX0_put_22 ?_
    refine g_iload_n X dX0_put_23 2 rfl ?_
    refine g_ior X dX0_put_24 ?_
    refine g_iast X aH_363 dX0_put_25 h (fun t2 h => ?_)
    refine g_aload_n X dX0_put_26 1 rfl ?_
    refine g_dup X rfl dX0_put_27 ?_
    refine g_getI X fH_X0_69_302 rfl dX0_put_28 h (fun v3 h => ?_)
    refine g_iconst X dX0_put_31 ?_
    refine g_iadd X dX0_put_32 ?_
    refine g_putI X fH_X0_69_302w rfl dX0_put_33 h (fun t4 h => ?_)
    refine g_iload_n X dX0_put_36 0 rfl ?_
    exact g_iret X h dX0_put_37
set_option maxHeartbeats 4000000 in
set_option maxRecDepth 100000 in
theorem cp_X0_put (l : Launch) (E : cE) (r : Nat → Nat) (N : Nat) (a0 : Int) (a1 : Int) (t : St) (z : Int × St) (h : f_X0_put N a0 a1 t = some z) : cM l E yX0_put cX0_put 4 (some .int) rm_f_X0_put [.ref (r 302), iv a0, iv a1] (gW E r shH t) (gqI E (gW E r shH) z) := by
  refine g_of (w := gW E r shH) (by decide) (Nat.le_of_ble_eq_true rfl) ?_
  intro p e s m below meth c A X
  exact g_sub (lv' := [(0, .ref (r 302)), (1, iv a0), (2, iv a1)]) [0, 1, 2] rfl (b_f_X0_put X h)
theorem yy_X0_put : cY yX0_put cX0_put 4 (some .int) 2 := ⟨wdK_X0_put, wdZ_RX0, by decide +kernel⟩
theorem yi_X0_put : cYi yX0_put := ⟨wdN_X0_put, wdS_X0_put⟩
theorem dX0_patch_0 : decode cX0_patch 0 = .ok (.iload_n 1, 1) := by decide +kernel
theorem dX0_patch_1 : decode cX0_patch 1 = .ok (.ifCond .lt 27, 3) := by decide +kernel
theorem dX0_patch_4 : decode cX0_patch 4 = .ok (.iload_n 1, 1) := by decide +kernel
theorem dX0_patch_5 : decode cX0_patch 5 = .ok (.aload_n 0, 1) := by decide +kernel
theorem dX0_patch_6 : decode cX0_patch 6 = .ok (.getfield 69, 3) := by decide +kernel
theorem dX0_patch_9 : decode cX0_patch 9 = .ok (.if_icmp .ge 19, 3) := by decide +kernel
theorem dX0_patch_12 : decode cX0_patch 12 = .ok (.aload_n 0, 1) := by decide +kernel
theorem dX0_patch_13 : decode cX0_patch 13 = .ok (.getfield 66, 3) := by decide +kernel
theorem dX0_patch_16 : decode cX0_patch 16 = .ok (.iload_n 1, 1) := by decide +kernel
theorem dX0_patch_17 : decode cX0_patch 17 = .ok (.iload_n 2, 1) := by decide +kernel
theorem dX0_patch_18 : decode cX0_patch 18 = .ok (.bipush 6, 2) := by decide +kernel
theorem dX0_patch_20 : decode cX0_patch 20 = .ok (.ishl, 1) := by decide +kernel
theorem dX0_patch_21 : decode cX0_patch 21 = .ok (.aload_n 0, 1) := by decide +kernel
theorem dX0_patch_22 : decode cX0_patch 22 = .ok (.iload_n 1, 1) := by decide +kernel
theorem dX0_patch_23 : decode cX0_patch 23 = .ok (.invokevirtual 73, 3) := by decide +kernel
theorem dX0_patch_26 : decode cX0_patch 26 = .ok (.ior, 1) := by decide +kernel
theorem dX0_patch_27 : decode cX0_patch 27 = .ok (.iastore, 1) := by decide +kernel
theorem dX0_patch_28 : decode cX0_patch 28 = .ok (.return_, 1) := by decide +kernel
abbrev rm_f_X0_patch : Room := { frames := 1, cells := 0, slots := 0, locals := 21 }
def f_X0_patch (N : Nat) (a0 : Int) (a1 : Int) (t : St) : Option (St) :=
    cmpI a0 0 (if a0 < 0 then (some t)
    else (lt1 (t.1 302 18) fun v1 =>
    cmpI a0 v1 (if a0 < v1 then (bdI (f_X0_kindAt N a0 t) fun v3 t2 =>
    ixI a0 10098 (lt1 (pI t2 363 a0.toNat (iorZ (a1 * 64) v3)) fun t4 =>
    some t4))
    else (some t))))
set_option maxHeartbeats 4000000 in
set_option maxRecDepth 100000 in
theorem b_f_X0_patch {p : Program} {l : Launch} {e : Env} {s : State} {m : MethodId} {args : Array Value} {below : List Frame} {meth : Method} {c : Code} {E : cE} {A : Nat → Prop} {r : Nat → Nat} {mc ms : Nat} {z : St} {N : Nat} {a0 : Int} {a1 : Int} {t : St} (X : gX p s m meth c cX0_patch 3 none yX0_patch args E A) (h : f_X0_patch N a0 a1 t = some z) : gP p l e rm_f_X0_patch s m args below meth c E A 3 (MQ below ((gqV E (gW E r shH) z) A) args s mc ms A) (gW E r shH) 0 [(0, .ref (r 302)), (1, iv a0), (2, iv a1)] [] t := by
  unfold f_X0_patch at h
  refine g_iload_n X dX0_patch_0 1 rfl ?_
  refine g_if_lt (tgt := 28) X dX0_patch_1 (by decide) h (fun h => ?_) (fun h => ?_)
  · exact g_vret X h dX0_patch_28
  · refine g_iload_n X dX0_patch_4 1 rfl ?_
    refine g_aload_n X dX0_patch_5 0 rfl ?_
    refine g_getI X fH_X0_69_302 rfl dX0_patch_6 h (fun v1 h => ?_)
    refine g_icmp_ge (tgt := 28) X dX0_patch_9 (by decide) h (fun h => ?_) (fun h => ?_)
    · exact g_vret X h dX0_patch_28
    · refine g_aload_n X dX0_patch_12 0 rfl ?_
      refine g_getR X fH_X0_66_302 rfl dX0_patch_13 ?_
      refine g_iload_n X dX0_patch_16 1 rfl ?_
      refine g_iload_n X dX0_patch_17 2 rfl ?_
      refine g_bipush X dX0_patch_18 (by decide) ?_
      refine g_shl X 6 (by decide) (M := 64) (by decide) (by decide) dX0_patch_20 ?_
      refine g_aload_n X dX0_patch_21 0 rfl ?_
      refine g_iload_n X dX0_patch_22 1 rfl ?_
      refine g_callOI (rest := [iv (a1 * 64), iv a0, .ref (r 363)]) X (fun u9 h9 => cp_X0_kindAt l E r N a0 t u9 h9) yy_X0_kindAt yi_X0_kindAt wdM_RX0_73 ⟨_, _, oH_302⟩ rfl rfl rfl (Nat.le_of_ble_eq_true rfl) dX0_patch_23 ⟨by decide, by decide⟩ ⟨rfl, rfl⟩ h (fun v3 t2 h => ?_)
      refine g_ior X dX0_patch_26 ?_
      refine g_iast X aH_363 dX0_patch_27 h (fun t4 h => ?_)
      exact g_vret X h dX0_patch_28
set_option maxHeartbeats 4000000 in
set_option maxRecDepth 100000 in
theorem cp_X0_patch (l : Launch) (E : cE) (r : Nat → Nat) (N : Nat) (a0 : Int) (a1 : Int) (t : St) (z : St) (h : f_X0_patch N a0 a1 t = some z) : cM l E yX0_patch cX0_patch 3 none rm_f_X0_patch [.ref (r 302), iv a0, iv a1] (gW E r shH t) (gqV E (gW E r shH) z) := by
  refine g_of (w := gW E r shH) (by decide) (Nat.le_of_ble_eq_true rfl) ?_
  intro p e s m below meth c A X
  exact g_sub (lv' := [(0, .ref (r 302)), (1, iv a0), (2, iv a1)]) [0, 1, 2] rfl (b_f_X0_patch X h)
theorem yy_X0_patch : cY yX0_patch cX0_patch 3 none 2 := ⟨wdK_X0_patch, wdZ_RX0, by decide +kernel⟩
theorem yi_X0_patch : cYi yX0_patch := ⟨wdN_X0_patch, wdS_X0_patch⟩
theorem dX0_hasSlot_0 : decode cX0_hasSlot 0 = .ok (.iconst 0, 1) := by decide +kernel
theorem dX0_hasSlot_1 : decode cX0_hasSlot 1 = .ok (.istore 4, 2) := by decide +kernel
theorem dX0_hasSlot_3 : decode cX0_hasSlot 3 = .ok (.iload 4, 2) := by decide +kernel
theorem dX0_hasSlot_5 : decode cX0_hasSlot 5 = .ok (.aload_n 0, 1) := by decide +kernel
theorem dX0_hasSlot_6 : decode cX0_hasSlot 6 = .ok (.getfield 26, 3) := by decide +kernel
theorem dX0_hasSlot_9 : decode cX0_hasSlot 9 = .ok (.iload_n 1, 1) := by decide +kernel
theorem dX0_hasSlot_10 : decode cX0_hasSlot 10 = .ok (.iaload, 1) := by decide +kernel
theorem dX0_hasSlot_11 : decode cX0_hasSlot 11 = .ok (.if_icmp .ge 44, 3) := by decide +kernel
theorem dX0_hasSlot_14 : decode cX0_hasSlot 14 = .ok (.iload_n 1, 1) := by decide +kernel
theorem dX0_hasSlot_15 : decode cX0_hasSlot 15 = .ok (.bipush 8, 2) := by decide +kernel
theorem dX0_hasSlot_17 : decode cX0_hasSlot 17 = .ok (.imul, 1) := by decide +kernel
theorem dX0_hasSlot_18 : decode cX0_hasSlot 18 = .ok (.iload 4, 2) := by decide +kernel
theorem dX0_hasSlot_20 : decode cX0_hasSlot 20 = .ok (.iadd, 1) := by decide +kernel
theorem dX0_hasSlot_21 : decode cX0_hasSlot 21 = .ok (.iconst 4, 1) := by decide +kernel
theorem dX0_hasSlot_22 : decode cX0_hasSlot 22 = .ok (.imul, 1) := by decide +kernel
theorem dX0_hasSlot_23 : decode cX0_hasSlot 23 = .ok (.istore 5, 2) := by decide +kernel
theorem dX0_hasSlot_25 : decode cX0_hasSlot 25 = .ok (.aload_n 0, 1) := by decide +kernel
theorem dX0_hasSlot_26 : decode cX0_hasSlot 26 = .ok (.getfield 30, 3) := by decide +kernel
theorem dX0_hasSlot_29 : decode cX0_hasSlot 29 = .ok (.iload 5, 2) := by decide +kernel
theorem dX0_hasSlot_31 : decode cX0_hasSlot 31 = .ok (.iaload, 1) := by decide +kernel
theorem dX0_hasSlot_32 : decode cX0_hasSlot 32 = .ok (.iload_n 2, 1) := by decide +kernel
theorem dX0_hasSlot_33 : decode cX0_hasSlot 33 = .ok (.if_icmp .ne 16, 3) := by decide +kernel
theorem dX0_hasSlot_36 : decode cX0_hasSlot 36 = .ok (.aload_n 0, 1) := by decide +kernel
theorem dX0_hasSlot_37 : decode cX0_hasSlot 37 = .ok (.getfield 33, 3) := by decide +kernel
theorem dX0_hasSlot_40 : decode cX0_hasSlot 40 = .ok (.iload 5, 2) := by decide +kernel
theorem dX0_hasSlot_42 : decode cX0_hasSlot 42 = .ok (.iaload, 1) := by decide +kernel
theorem dX0_hasSlot_43 : decode cX0_hasSlot 43 = .ok (.iload_n 3, 1) := by decide +kernel
theorem dX0_hasSlot_44 : decode cX0_hasSlot 44 = .ok (.if_icmp .ne 5, 3) := by decide +kernel
theorem dX0_hasSlot_47 : decode cX0_hasSlot 47 = .ok (.iconst 1, 1) := by decide +kernel
theorem dX0_hasSlot_48 : decode cX0_hasSlot 48 = .ok (.ireturn, 1) := by decide +kernel
theorem dX0_hasSlot_49 : decode cX0_hasSlot 49 = .ok (.iinc 4 1, 3) := by decide +kernel
theorem dX0_hasSlot_52 : decode cX0_hasSlot 52 = .ok (.goto (-49), 3) := by decide +kernel
theorem dX0_hasSlot_55 : decode cX0_hasSlot 55 = .ok (.iconst 0, 1) := by decide +kernel
theorem dX0_hasSlot_56 : decode cX0_hasSlot 56 = .ok (.ireturn, 1) := by decide +kernel
abbrev rm_f_X0_hasSlot : Room := { frames := 0, cells := 0, slots := 0, locals := 0 }
def f_X0_hasSlot_L3 (K6 : (St → Option (Int × St))) (y1 : Int) (y2 : Int) (y3 : Int) : Nat → Int → St → Option (Int × St)
  | 0, _, _ => none
  | n9 + 1, x4, t5 =>
    ixI y1 40 (lt1 (t5.1 350 y1.toNat) fun v7 =>
    cmpI x4 v7 (if x4 < v7 then (ixI (((y1 * 8) + x4) * 4) 1280 (lt1 (t5.1 351 (((y1 * 8) + x4) * 4).toNat) fun v8 =>
    jn1 (fun (t9 : St) => f_X0_hasSlot_L3 K6 y1 y2 y3 n9 (x4 + 1) t9) fun J10 =>
    cmpI v8 y2 (if v8 = y2 then (ixI (((y1 * 8) + x4) * 4) 1280 (lt1 (t5.1 352 (((y1 * 8) + x4) * 4).toNat) fun v11 =>
    cmpI v11 y3 (if v11 = y3 then (boI 1 (some (1, t5)))
    else (J10 t5))))
    else (J10 t5))))
    else (K6 t5)))
def f_X0_hasSlot (N : Nat) (a0 : Int) (a1 : Int) (a2 : Int) (t : St) : Option (Int × St) :=
    f_X0_hasSlot_L3 (fun (t12 : St) => boI 0 (some (0, t12))) a0 a1 a2 N 0 t
set_option maxHeartbeats 4000000 in
set_option maxRecDepth 100000 in
theorem t_f_X0_hasSlot_L3 {p : Program} {l : Launch} {e : Env} {s : State} {m : MethodId} {args : Array Value} {below : List Frame} {meth : Method} {c : Code} {E : cE} {A : Nat → Prop} {r : Nat → Nat} {mc ms : Nat} {z : Int × St} {K6 : (St → Option (Int × St))} {y1 : Int} {y2 : Int} {y3 : Int} (X : gX p s m meth c cX0_hasSlot 6 (some .boolean) yX0_hasSlot args E A) (hK6 : ∀ (t9 : St), K6 t9 = some z → gP p l e rm_f_X0_hasSlot s m args below meth c E A 6 (MQ below ((gqI E (gW E r shH) z) A) args s mc ms A) (gW E r shH) 55 [] [] t9) : ∀ (n9 : Nat) (x4 : Int) (t5 : St), f_X0_hasSlot_L3 K6 y1 y2 y3 n9 x4 t5 = some z → gP p l e rm_f_X0_hasSlot s m args below meth c E A 6 (MQ below ((gqI E (gW E r shH) z) A) args s mc ms A) (gW E r shH) 3 [(0, .ref (r 302)), (1, iv y1), (2, iv y2), (3, iv y3), (4, iv x4)] [] t5 := by
  intro n9
  induction n9 with
  | zero => intro x4 t5 h; cases h
  | succ n9 ih =>
    intro x4 t5 h
    unfold f_X0_hasSlot_L3 at h
    refine g_iload X dX0_hasSlot_3 4 rfl ?_
    refine g_aload_n X dX0_hasSlot_5 0 rfl ?_
    refine g_getR X fH_X0_26_302 rfl dX0_hasSlot_6 ?_
    refine g_iload_n X dX0_hasSlot_9 1 rfl ?_
    refine g_iald X aH_350 dX0_hasSlot_10 h (fun v7 h => ?_)
    refine g_icmp_ge (tgt := 55) X dX0_hasSlot_11 (by decide) h (fun h => ?_) (fun h => ?_)
    · exact g_sub (lv' := []) [] rfl (hK6 t5 h)
    · refine g_iload_n X dX0_hasSlot_14 1 rfl ?_
      refine g_bipush X dX0_hasSlot_15 (by decide) ?_
      refine g_imul X dX0_hasSlot_17 ?_
      refine g_iload X dX0_hasSlot_18 4 rfl ?_
      refine g_iadd X dX0_hasSlot_20 ?_
      refine g_iconst X dX0_hasSlot_21 ?_
      refine g_imul X dX0_hasSlot_22 ?_
      refine g_istore (lv' := [(5, iv (((y1 * 8) + x4) * 4)), (0, .ref (r 302)), (1, iv y1), (2, iv y2), (3, iv y3), (4, iv x4)]) X dX0_hasSlot_23 (by decide) rfl ?_
      refine g_aload_n X dX0_hasSlot_25 1 rfl ?_
      refine g_getR X fH_X0_30_302 rfl dX0_hasSlot_26 ?_
      refine g_iload X dX0_hasSlot_29 0 rfl ?_
      refine g_iald X aH_351 dX0_hasSlot_31 h (fun v8 h => ?_)
      refine g_iload_n X dX0_hasSlot_32 3 rfl ?_
      refine g_join (J := fun jj => ∀ (t9 : St), jj  t9 = some z → gP p l e rm_f_X0_hasSlot s m args below meth c E A 6 (MQ below ((gqI E (gW E r shH) z) A) args s mc ms A) (gW E r shH) 49 [(0, .ref (r 302)), (1, iv y1), (2, iv y2), (3, iv y3), (4, iv x4)] [] t9) h (fun  t9 h => ?_) (fun J10 hJ10 h => ?_)
      · refine g_iinc (lv' := [(4, iv (x4 + 1)), (0, .ref (r 302)), (1, iv y1), (2, iv y2), (3, iv y3)]) X dX0_hasSlot_49 (k := 4) rfl (by decide) rfl ?_
        refine g_goto (tgt := 3) X dX0_hasSlot_52 (by decide) ?_
        exact g_sub (lv' := [(0, .ref (r 302)), (1, iv y1), (2, iv y2), (3, iv y3), (4, iv (x4 + 1))]) [1, 2, 3, 4, 0] rfl (ih (x4 + 1) t9 h)
      refine g_icmp_ne (tgt := 49) X dX0_hasSlot_33 (by decide) h (fun h => ?_) (fun h => ?_)
      · exact g_sub (lv' := [(0, .ref (r 302)), (1, iv y1), (2, iv y2), (3, iv y3), (4, iv x4)]) [1, 2, 3, 4, 5] rfl (hJ10 t5 h)
      · refine g_aload_n X dX0_hasSlot_36 1 rfl ?_
        refine g_getR X fH_X0_33_302 rfl dX0_hasSlot_37 ?_
        refine g_iload X dX0_hasSlot_40 0 rfl ?_
        refine g_iald X aH_352 dX0_hasSlot_42 h (fun v11 h => ?_)
        refine g_iload_n X dX0_hasSlot_43 4 rfl ?_
        refine g_icmp_ne (tgt := 49) X dX0_hasSlot_44 (by decide) h (fun h => ?_) (fun h => ?_)
        · exact g_sub (lv' := [(0, .ref (r 302)), (1, iv y1), (2, iv y2), (3, iv y3), (4, iv x4)]) [1, 2, 3, 4, 5] rfl (hJ10 t5 h)
        · refine g_iconst X dX0_hasSlot_47 ?_
          exact g_zret X h dX0_hasSlot_48
set_option maxHeartbeats 4000000 in
set_option maxRecDepth 100000 in
theorem b_f_X0_hasSlot {p : Program} {l : Launch} {e : Env} {s : State} {m : MethodId} {args : Array Value} {below : List Frame} {meth : Method} {c : Code} {E : cE} {A : Nat → Prop} {r : Nat → Nat} {mc ms : Nat} {z : Int × St} {N : Nat} {a0 : Int} {a1 : Int} {a2 : Int} {t : St} (X : gX p s m meth c cX0_hasSlot 6 (some .boolean) yX0_hasSlot args E A) (h : f_X0_hasSlot N a0 a1 a2 t = some z) : gP p l e rm_f_X0_hasSlot s m args below meth c E A 6 (MQ below ((gqI E (gW E r shH) z) A) args s mc ms A) (gW E r shH) 0 [(0, .ref (r 302)), (1, iv a0), (2, iv a1), (3, iv a2)] [] t := by
  unfold f_X0_hasSlot at h
  refine g_iconst X dX0_hasSlot_0 ?_
  refine g_istore (lv' := [(4, iv 0), (0, .ref (r 302)), (1, iv a0), (2, iv a1), (3, iv a2)]) X dX0_hasSlot_1 (by decide) rfl ?_
  refine g_sub (lv' := [(0, .ref (r 302)), (1, iv a0), (2, iv a1), (3, iv a2), (4, iv 0)]) [1, 2, 3, 4, 0] rfl (t_f_X0_hasSlot_L3 X (fun t12 h => ?_) N 0 t h)
  · refine g_iconst X dX0_hasSlot_55 ?_
    exact g_zret X h dX0_hasSlot_56
set_option maxHeartbeats 4000000 in
set_option maxRecDepth 100000 in
theorem cp_X0_hasSlot (l : Launch) (E : cE) (r : Nat → Nat) (N : Nat) (a0 : Int) (a1 : Int) (a2 : Int) (t : St) (z : Int × St) (h : f_X0_hasSlot N a0 a1 a2 t = some z) : cM l E yX0_hasSlot cX0_hasSlot 6 (some .boolean) rm_f_X0_hasSlot [.ref (r 302), iv a0, iv a1, iv a2] (gW E r shH t) (gqI E (gW E r shH) z) := by
  refine g_of (w := gW E r shH) (by decide) (Nat.le_of_ble_eq_true rfl) ?_
  intro p e s m below meth c A X
  exact g_sub (lv' := [(0, .ref (r 302)), (1, iv a0), (2, iv a1), (3, iv a2)]) [0, 1, 2, 3] rfl (b_f_X0_hasSlot X h)
theorem yy_X0_hasSlot : cY yX0_hasSlot cX0_hasSlot 6 (some .boolean) 3 := ⟨wdK_X0_hasSlot, wdZ_RX0, by decide +kernel⟩
theorem yi_X0_hasSlot : cYi yX0_hasSlot := ⟨wdN_X0_hasSlot, wdS_X0_hasSlot⟩
theorem dX0_turnedX_0 : decode cX0_turnedX 0 = .ok (.iload_n 2, 1) := by decide +kernel
theorem dX0_turnedX_1 : decode cX0_turnedX 1 = .ok (.tableswitch 34 0 2 #[27, 29, 31], 27) := by decide +kernel
theorem dX0_turnedX_28 : decode cX0_turnedX 28 = .ok (.iload_n 0, 1) := by decide +kernel
theorem dX0_turnedX_29 : decode cX0_turnedX 29 = .ok (.ireturn, 1) := by decide +kernel
theorem dX0_turnedX_30 : decode cX0_turnedX 30 = .ok (.iload_n 1, 1) := by decide +kernel
theorem dX0_turnedX_31 : decode cX0_turnedX 31 = .ok (.ireturn, 1) := by decide +kernel
theorem dX0_turnedX_32 : decode cX0_turnedX 32 = .ok (.iload_n 0, 1) := by decide +kernel
theorem dX0_turnedX_33 : decode cX0_turnedX 33 = .ok (.ineg, 1) := by decide +kernel
theorem dX0_turnedX_34 : decode cX0_turnedX 34 = .ok (.ireturn, 1) := by decide +kernel
theorem dX0_turnedX_35 : decode cX0_turnedX 35 = .ok (.iload_n 1, 1) := by decide +kernel
theorem dX0_turnedX_36 : decode cX0_turnedX 36 = .ok (.ineg, 1) := by decide +kernel
theorem dX0_turnedX_37 : decode cX0_turnedX 37 = .ok (.ireturn, 1) := by decide +kernel
abbrev rm_f_X0_turnedX : Room := { frames := 0, cells := 0, slots := 0, locals := 0 }
def f_X0_turnedX (N : Nat) (a0 : Int) (a1 : Int) (a2 : Int) (t : St) : Option (Int × St) :=
    rnI a2 (if a2 = 0 then (some (a0, t))
    else (if a2 = 1 then (some (a1, t))
    else (if a2 = 2 then (some (-a0, t))
    else (some (-a1, t)))))
set_option maxHeartbeats 4000000 in
set_option maxRecDepth 100000 in
theorem b_f_X0_turnedX {p : Program} {l : Launch} {e : Env} {s : State} {m : MethodId} {args : Array Value} {below : List Frame} {meth : Method} {c : Code} {E : cE} {A : Nat → Prop} {r : Nat → Nat} {mc ms : Nat} {z : Int × St} {N : Nat} {a0 : Int} {a1 : Int} {a2 : Int} {t : St} (X : gX p s m meth c cX0_turnedX 3 (some .int) yX0_turnedX args E A) (h : f_X0_turnedX N a0 a1 a2 t = some z) : gP p l e rm_f_X0_turnedX s m args below meth c E A 3 (MQ below ((gqI E (gW E r shH) z) A) args s mc ms A) (gW E r shH) 0 [(0, iv a0), (1, iv a1), (2, iv a2)] [] t := by
  unfold f_X0_turnedX at h
  refine g_iload_n X dX0_turnedX_0 2 rfl ?_
  obtain ⟨hr9, h⟩ := rnI_some h
  by_cases e9_0 : a2 = 0
  · rw [if_pos e9_0] at h
    refine g_tableIn X (tgt := 28) (off := 27) dX0_turnedX_1 (k := 0) hr9 e9_0 (by decide) (by decide) rfl (by decide) ?_
    refine g_iload_n X dX0_turnedX_28 0 rfl ?_
    exact g_iret X h dX0_turnedX_29
  · rw [if_neg e9_0] at h
    by_cases e9_1 : a2 = 1
    · rw [if_pos e9_1] at h
      refine g_tableIn X (tgt := 30) (off := 29) dX0_turnedX_1 (k := 1) hr9 e9_1 (by decide) (by decide) rfl (by decide) ?_
      refine g_iload_n X dX0_turnedX_30 1 rfl ?_
      exact g_iret X h dX0_turnedX_31
    · rw [if_neg e9_1] at h
      by_cases e9_2 : a2 = 2
      · rw [if_pos e9_2] at h
        refine g_tableIn X (tgt := 32) (off := 31) dX0_turnedX_1 (k := 2) hr9 e9_2 (by decide) (by decide) rfl (by decide) ?_
        refine g_iload_n X dX0_turnedX_32 0 rfl ?_
        refine g_ineg X dX0_turnedX_33 ?_
        exact g_iret X h dX0_turnedX_34
      · rw [if_neg e9_2] at h
        refine g_tableOut X (tgt := 35) dX0_turnedX_1 hr9 (by omega) (by decide) ?_
        refine g_iload_n X dX0_turnedX_35 1 rfl ?_
        refine g_ineg X dX0_turnedX_36 ?_
        exact g_iret X h dX0_turnedX_37
set_option maxHeartbeats 4000000 in
set_option maxRecDepth 100000 in
theorem cp_X0_turnedX (l : Launch) (E : cE) (r : Nat → Nat) (N : Nat) (a0 : Int) (a1 : Int) (a2 : Int) (t : St) (z : Int × St) (h : f_X0_turnedX N a0 a1 a2 t = some z) : cM l E yX0_turnedX cX0_turnedX 3 (some .int) rm_f_X0_turnedX [iv a0, iv a1, iv a2] (gW E r shH t) (gqI E (gW E r shH) z) := by
  refine g_of (w := gW E r shH) (by decide) (Nat.le_of_ble_eq_true rfl) ?_
  intro p e s m below meth c A X
  exact g_sub (lv' := [(0, iv a0), (1, iv a1), (2, iv a2)]) [0, 1, 2] rfl (b_f_X0_turnedX X h)
theorem yy_X0_turnedX : cY yX0_turnedX cX0_turnedX 3 (some .int) 3 := ⟨wdK_X0_turnedX, wdZ_RX0, by decide +kernel⟩
theorem dX0_turnedY_0 : decode cX0_turnedY 0 = .ok (.iload_n 1, 1) := by decide +kernel
theorem dX0_turnedY_1 : decode cX0_turnedY 1 = .ok (.iload_n 0, 1) := by decide +kernel
theorem dX0_turnedY_2 : decode cX0_turnedY 2 = .ok (.ineg, 1) := by decide +kernel
theorem dX0_turnedY_3 : decode cX0_turnedY 3 = .ok (.iload_n 2, 1) := by decide +kernel
theorem dX0_turnedY_4 : decode cX0_turnedY 4 = .ok (.invokestatic 77, 3) := by decide +kernel
theorem dX0_turnedY_7 : decode cX0_turnedY 7 = .ok (.ireturn, 1) := by decide +kernel
abbrev rm_f_X0_turnedY : Room := { frames := 1, cells := 0, slots := 0, locals := 22 }
def f_X0_turnedY (N : Nat) (a0 : Int) (a1 : Int) (a2 : Int) (t : St) : Option (Int × St) :=
    bdI (f_X0_turnedX N a1 (-a0) a2 t) fun v2 t1 =>
    some (v2, t1)
set_option maxHeartbeats 4000000 in
set_option maxRecDepth 100000 in
theorem b_f_X0_turnedY {p : Program} {l : Launch} {e : Env} {s : State} {m : MethodId} {args : Array Value} {below : List Frame} {meth : Method} {c : Code} {E : cE} {A : Nat → Prop} {r : Nat → Nat} {mc ms : Nat} {z : Int × St} {N : Nat} {a0 : Int} {a1 : Int} {a2 : Int} {t : St} (X : gX p s m meth c cX0_turnedY 3 (some .int) yX0_turnedY args E A) (h : f_X0_turnedY N a0 a1 a2 t = some z) : gP p l e rm_f_X0_turnedY s m args below meth c E A 3 (MQ below ((gqI E (gW E r shH) z) A) args s mc ms A) (gW E r shH) 0 [(0, iv a0), (1, iv a1), (2, iv a2)] [] t := by
  unfold f_X0_turnedY at h
  refine g_iload_n X dX0_turnedY_0 1 rfl ?_
  refine g_iload_n X dX0_turnedY_1 0 rfl ?_
  refine g_ineg X dX0_turnedY_2 ?_
  refine g_iload_n X dX0_turnedY_3 2 rfl ?_
  refine g_callsI (rest := []) X (fun u9 h9 => cp_X0_turnedX l E r N a1 (-a0) a2 t u9 h9) yy_X0_turnedX wdT_X0_turnedX wdM_RX0_77 rfl rfl (Nat.le_of_ble_eq_true rfl) dX0_turnedY_4 ⟨by decide, by decide⟩ ⟨rfl, rfl⟩ h (fun v2 t1 h => ?_)
  exact g_iret X h dX0_turnedY_7
set_option maxHeartbeats 4000000 in
set_option maxRecDepth 100000 in
theorem cp_X0_turnedY (l : Launch) (E : cE) (r : Nat → Nat) (N : Nat) (a0 : Int) (a1 : Int) (a2 : Int) (t : St) (z : Int × St) (h : f_X0_turnedY N a0 a1 a2 t = some z) : cM l E yX0_turnedY cX0_turnedY 3 (some .int) rm_f_X0_turnedY [iv a0, iv a1, iv a2] (gW E r shH t) (gqI E (gW E r shH) z) := by
  refine g_of (w := gW E r shH) (by decide) (Nat.le_of_ble_eq_true rfl) ?_
  intro p e s m below meth c A X
  exact g_sub (lv' := [(0, iv a0), (1, iv a1), (2, iv a2)]) [0, 1, 2] rfl (b_f_X0_turnedY X h)
theorem yy_X0_turnedY : cY yX0_turnedY cX0_turnedY 3 (some .int) 3 := ⟨wdK_X0_turnedY, wdZ_RX0, by decide +kernel⟩
theorem dX0_addSlot_0 : decode cX0_addSlot 0 = .ok (.iload_n 1, 1) := by decide +kernel
theorem dX0_addSlot_1 : decode cX0_addSlot 1 = .ok (.bipush 8, 2) := by decide +kernel
theorem dX0_addSlot_3 : decode cX0_addSlot 3 = .ok (.imul, 1) := by decide +kernel
theorem dX0_addSlot_4 : decode cX0_addSlot 4 = .ok (.aload_n 0, 1) := by decide +kernel
theorem dX0_addSlot_5 : decode cX0_addSlot 5 = .ok (.getfield 26, 3) := by decide +kernel
theorem dX0_addSlot_8 : decode cX0_addSlot 8 = .ok (.iload_n 1, 1) := by decide +kernel
theorem dX0_addSlot_9 : decode cX0_addSlot 9 = .ok (.iaload, 1) := by decide +kernel
theorem dX0_addSlot_10 : decode cX0_addSlot 10 = .ok (.iadd, 1) := by decide +kernel
theorem dX0_addSlot_11 : decode cX0_addSlot 11 = .ok (.istore 5, 2) := by decide +kernel
theorem dX0_addSlot_13 : decode cX0_addSlot 13 = .ok (.iconst 0, 1) := by decide +kernel
theorem dX0_addSlot_14 : decode cX0_addSlot 14 = .ok (.istore 6, 2) := by decide +kernel
theorem dX0_addSlot_16 : decode cX0_addSlot 16 = .ok (.iload 6, 2) := by decide +kernel
theorem dX0_addSlot_18 : decode cX0_addSlot 18 = .ok (.iconst 4, 1) := by decide +kernel
theorem dX0_addSlot_19 : decode cX0_addSlot 19 = .ok (.if_icmp .ge 47, 3) := by decide +kernel
theorem dX0_addSlot_22 : decode cX0_addSlot 22 = .ok (.aload_n 0, 1) := by decide +kernel
theorem dX0_addSlot_23 : decode cX0_addSlot 23 = .ok (.getfield 30, 3) := by decide +kernel
theorem dX0_addSlot_26 : decode cX0_addSlot 26 = .ok (.iload 5, 2) := by decide +kernel
theorem dX0_addSlot_28 : decode cX0_addSlot 28 = .ok (.iconst 4, 1) := by decide +kernel
theorem dX0_addSlot_29 : decode cX0_addSlot 29 = .ok (.imul, 1) := by decide +kernel
theorem dX0_addSlot_30 : decode cX0_addSlot 30 = .ok (.iload 6, 2) := by decide +kernel
theorem dX0_addSlot_32 : decode cX0_addSlot 32 = .ok (.iadd, 1) := by decide +kernel
theorem dX0_addSlot_33 : decode cX0_addSlot 33 = .ok (.iload_n 2, 1) := by decide +kernel
theorem dX0_addSlot_34 : decode cX0_addSlot 34 = .ok (.iload_n 3, 1) := by decide +kernel
theorem dX0_addSlot_35 : decode cX0_addSlot 35 = .ok (.iload 6, 2) := by decide +kernel
theorem dX0_addSlot_37 : decode cX0_addSlot 37 = .ok (.invokestatic 77, 3) := by decide +kernel
theorem dX0_addSlot_40 : decode cX0_addSlot 40 = .ok (.iastore, 1) := by decide +kernel
theorem dX0_addSlot_41 : decode cX0_addSlot 41 = .ok (.aload_n 0, 1) := by decide +kernel
theorem dX0_addSlot_42 : decode cX0_addSlot 42 = .ok (.getfield 33, 3) := by decide +kernel
theorem dX0_addSlot_45 : decode cX0_addSlot 45 = .ok (.iload 5, 2) := by decide +kernel
theorem dX0_addSlot_47 : decode cX0_addSlot 47 = .ok (.iconst 4, 1) := by decide +kernel
theorem dX0_addSlot_48 : decode cX0_addSlot 48 = .ok (.imul, 1) := by decide +kernel
theorem dX0_addSlot_49 : decode cX0_addSlot 49 = .ok (.iload 6, 2) := by decide +kernel
theorem dX0_addSlot_51 : decode cX0_addSlot 51 = .ok (.iadd, 1) := by decide +kernel
theorem dX0_addSlot_52 : decode cX0_addSlot 52 = .ok (.iload_n 2, 1) := by decide +kernel
theorem dX0_addSlot_53 : decode cX0_addSlot 53 = .ok (.iload_n 3, 1) := by decide +kernel
theorem dX0_addSlot_54 : decode cX0_addSlot 54 = .ok (.iload 6, 2) := by decide +kernel
theorem dX0_addSlot_56 : decode cX0_addSlot 56 = .ok (.invokestatic 81, 3) := by decide +kernel
theorem dX0_addSlot_59 : decode cX0_addSlot 59 = .ok (.iastore, 1) := by decide +kernel
theorem dX0_addSlot_60 : decode cX0_addSlot 60 = .ok (.iinc 6 1, 3) := by decide +kernel
theorem dX0_addSlot_63 : decode cX0_addSlot 63 = .ok (.goto (-47), 3) := by decide +kernel
theorem dX0_addSlot_66 : decode cX0_addSlot 66 = .ok (.aload_n 0, 1) := by decide +kernel
theorem dX0_addSlot_67 : decode cX0_addSlot 67 = .ok (.getfield 36, 3) := by decide +kernel
theorem dX0_addSlot_70 : decode cX0_addSlot 70 = .ok (.iload 5, 2) := by decide +kernel
theorem dX0_addSlot_72 : decode cX0_addSlot 72 = .ok (.iload 4, 2) := by decide +kernel
theorem dX0_addSlot_74 : decode cX0_addSlot 74 = .ok (.iastore, 1) := by decide +kernel
theorem dX0_addSlot_75 : decode cX0_addSlot 75 = .ok (.aload_n 0, 1) := by decide +kernel
theorem dX0_addSlot_76 : decode cX0_addSlot 76 = .ok (.getfield 26, 3) := by decide +kernel
theorem dX0_addSlot_79 : decode cX0_addSlot 79 = .ok (.iload_n 1, 1) := by decide +kernel
theorem dX0_addSlot_80 : decode cX0_addSlot 80 = .ok (.dup2, 1) := by decide +kernel
theorem dX0_addSlot_81 : decode cX0_addSlot 81 = .ok (.iaload, 1) := by decide +kernel
theorem dX0_addSlot_82 : decode cX0_addSlot 82 = .ok (.iconst 1, 1) := by decide +kernel
theorem dX0_addSlot_83 : decode cX0_addSlot 83 = .ok (.iadd, 1) := by decide +kernel
theorem dX0_addSlot_84 : decode cX0_addSlot 84 = .ok (.iastore, 1) := by decide +kernel
theorem dX0_addSlot_85 : decode cX0_addSlot 85 = .ok (.return_, 1) := by decide +kernel
abbrev rm_f_X0_addSlot : Room := { frames := 2, cells := 0, slots := 0, locals := 44 }
def f_X0_addSlot_L16 (N : Nat) (K9 : (St → Option (St))) (y3 : Int) (y4 : Int) (y6 : Int) : Nat → Int → St → Option (St)
  | 0, _, _ => none
  | n9 + 1, x7, t8 =>
    cmpI x7 4 (if x7 < 4 then (bdI (f_X0_turnedX N y3 y4 x7 t8) fun v11 t10 =>
    ixI ((y6 * 4) + x7) 1280 (lt1 (pI t10 351 ((y6 * 4) + x7).toNat v11) fun t12 =>
    bdI (f_X0_turnedY N y3 y4 x7 t12) fun v14 t13 =>
    ixI ((y6 * 4) + x7) 1280 (lt1 (pI t13 352 ((y6 * 4) + x7).toNat v14) fun t15 =>
    f_X0_addSlot_L16 N K9 y3 y4 y6 n9 (x7 + 1) t15)))
    else (K9 t8))
def f_X0_addSlot (N : Nat) (a0 : Int) (a1 : Int) (a2 : Int) (a3 : Int) (t : St) : Option (St) :=
    ixI a0 40 (lt1 (t.1 350 a0.toNat) fun v1 =>
    f_X0_addSlot_L16 N (fun (t16 : St) => ixI ((a0 * 8) + v1) 320 (lt1 (pI t16 353 ((a0 * 8) + v1).toNat a3) fun t17 =>
    ixI a0 40 (lt1 (t17.1 350 a0.toNat) fun v18 =>
    ixI a0 40 (lt1 (pI t17 350 a0.toNat (v18 + 1)) fun t19 =>
    some t19)))) a1 a2 ((a0 * 8) + v1) N 0 t)
set_option maxHeartbeats 4000000 in
set_option maxRecDepth 100000 in
theorem t_f_X0_addSlot_L16 {p : Program} {l : Launch} {e : Env} {s : State} {m : MethodId} {args : Array Value} {below : List Frame} {meth : Method} {c : Code} {E : cE} {A : Nat → Prop} {r : Nat → Nat} {mc ms : Nat} {z : St} {N : Nat} {K9 : (St → Option (St))} {y2 : Int} {y3 : Int} {y4 : Int} {y5 : Int} {y6 : Int} (X : gX p s m meth c cX0_addSlot 7 none yX0_addSlot args E A) (hK9 : ∀ (t9 : St), K9 t9 = some z → gP p l e rm_f_X0_addSlot s m args below meth c E A 7 (MQ below ((gqV E (gW E r shH) z) A) args s mc ms A) (gW E r shH) 66 [(0, .ref (r 302)), (1, iv y2), (4, iv y5), (5, iv y6)] [] t9) : ∀ (n9 : Nat) (x7 : Int) (t8 : St), f_X0_addSlot_L16 N K9 y3 y4 y6 n9 x7 t8 = some z → gP p l e rm_f_X0_addSlot s m args below meth c E A 7 (MQ below ((gqV E (gW E r shH) z) A) args s mc ms A) (gW E r shH) 16 [(0, .ref (r 302)), (1, iv y2), (2, iv y3), (3, iv y4), (4, iv y5), (5, iv y6), (6, iv x7)] [] t8 := by
  intro n9
  induction n9 with
  | zero => intro x7 t8 h; cases h
  | succ n9 ih =>
    intro x7 t8 h
    unfold f_X0_addSlot_L16 at h
    refine g_iload X dX0_addSlot_16 6 rfl ?_
    refine g_iconst X dX0_addSlot_18 ?_
    refine g_icmp_ge (tgt := 66) X dX0_addSlot_19 (by decide) h (fun h => ?_) (fun h => ?_)
    · exact g_sub (lv' := [(0, .ref (r 302)), (1, iv y2), (4, iv y5), (5, iv y6)]) [0, 1, 4, 5] rfl (hK9 t8 h)
    · refine g_aload_n X dX0_addSlot_22 0 rfl ?_
      refine g_getR X fH_X0_30_302 rfl dX0_addSlot_23 ?_
      refine g_iload X dX0_addSlot_26 5 rfl ?_
      refine g_iconst X dX0_addSlot_28 ?_
      refine g_imul X dX0_addSlot_29 ?_
      refine g_iload X dX0_addSlot_30 6 rfl ?_
      refine g_iadd X dX0_addSlot_32 ?_
      refine g_iload_n X dX0_addSlot_33 2 rfl ?_
      refine g_iload_n X dX0_addSlot_34 3 rfl ?_
      refine g_iload X dX0_addSlot_35 6 rfl ?_
      refine g_callsI (rest := [iv ((y6 * 4) + x7), .ref (r 351)]) X (fun u9 h9 => cp_X0_turnedX l E r N y3 y4 x7 t8 u9 h9) yy_X0_turnedX wdT_X0_turnedX wdM_RX0_77 rfl rfl (Nat.le_of_ble_eq_true rfl) dX0_addSlot_37 ⟨by decide, by decide⟩ ⟨rfl, rfl⟩ h (fun v11 t10 h => ?_)
      refine g_iast X aH_351 dX0_addSlot_40 h (fun t12 h => ?_)
      refine g_aload_n X dX0_addSlot_41 0 rfl ?_
      refine g_getR X fH_X0_33_302 rfl dX0_addSlot_42 ?_
      refine g_iload X dX0_addSlot_45 5 rfl ?_
      refine g_iconst X dX0_addSlot_47 ?_
      refine g_imul X dX0_addSlot_48 ?_
      refine g_iload X dX0_addSlot_49 6 rfl ?_
      refine g_iadd X dX0_addSlot_51 ?_
      refine g_iload_n X dX0_addSlot_52 2 rfl ?_
      refine g_iload_n X dX0_addSlot_53 3 rfl ?_
      refine g_iload X dX0_addSlot_54 6 rfl ?_
      refine g_callsI (rest := [iv ((y6 * 4) + x7), .ref (r 352)]) X (fun u9 h9 => cp_X0_turnedY l E r N y3 y4 x7 t12 u9 h9) yy_X0_turnedY wdT_X0_turnedY wdM_RX0_81 rfl rfl (Nat.le_of_ble_eq_true rfl) dX0_addSlot_56 ⟨by decide, by decide⟩ ⟨rfl, rfl⟩ h (fun v14 t13 h => ?_)
      refine g_iast X aH_352 dX0_addSlot_59 h (fun t15 h => ?_)
      refine g_iinc (lv' := [(6, iv (x7 + 1)), (0, .ref (r 302)), (1, iv y2), (2, iv y3), (3, iv y4), (4, iv y5), (5, iv y6)]) X dX0_addSlot_60 (k := 6) rfl (by decide) rfl ?_
      refine g_goto (tgt := 16) X dX0_addSlot_63 (by decide) ?_
      exact g_sub (lv' := [(0, .ref (r 302)), (1, iv y2), (2, iv y3), (3, iv y4), (4, iv y5), (5, iv y6), (6, iv (x7 + 1))]) [1, 2, 3, 4, 5, 6, 0] rfl (ih (x7 + 1) t15 h)
set_option maxHeartbeats 4000000 in
set_option maxRecDepth 100000 in
theorem b_f_X0_addSlot {p : Program} {l : Launch} {e : Env} {s : State} {m : MethodId} {args : Array Value} {below : List Frame} {meth : Method} {c : Code} {E : cE} {A : Nat → Prop} {r : Nat → Nat} {mc ms : Nat} {z : St} {N : Nat} {a0 : Int} {a1 : Int} {a2 : Int} {a3 : Int} {t : St} (X : gX p s m meth c cX0_addSlot 7 none yX0_addSlot args E A) (h : f_X0_addSlot N a0 a1 a2 a3 t = some z) : gP p l e rm_f_X0_addSlot s m args below meth c E A 7 (MQ below ((gqV E (gW E r shH) z) A) args s mc ms A) (gW E r shH) 0 [(0, .ref (r 302)), (1, iv a0), (2, iv a1), (3, iv a2), (4, iv a3)] [] t := by
  unfold f_X0_addSlot at h
  refine g_iload_n X dX0_addSlot_0 1 rfl ?_
  refine g_bipush X dX0_addSlot_1 (by decide) ?_
  refine g_imul X dX0_addSlot_3 ?_
  refine g_aload_n X dX0_addSlot_4 0 rfl ?_
  refine g_getR X fH_X0_26_302 rfl dX0_addSlot_5 ?_
  refine g_iload_n X dX0_addSlot_8 1 rfl ?_
  refine g_iald X aH_350 dX0_addSlot_9 h (fun v1 h => ?_)
  refine g_iadd X dX0_addSlot_10 ?_
  refine g_istore (lv' := [(5, iv ((a0 * 8) + v1)), (0, .ref (r 302)), (1, iv a0), (2, iv a1), (3, iv a2), (4, iv a3)]) X dX0_addSlot_11 (by decide) rfl ?_
  refine g_iconst X dX0_addSlot_13 ?_
  refine g_istore (lv' := [(6, iv 0), (5, iv ((a0 * 8) + v1)), (0, .ref (r 302)), (1, iv a0), (2, iv a1), (3, iv a2), (4, iv a3)]) X dX0_addSlot_14 (by decide) rfl ?_
  refine g_sub (lv' := [(0, .ref (r 302)), (1, iv a0), (2, iv a1), (3, iv a2), (4, iv a3), (5, iv ((a0 * 8) + v1)), (6, iv 0)]) [2, 3, 4, 5, 6, 1, 0] rfl (t_f_X0_addSlot_L16 X (fun t16 h => ?_) N 0 t h)
  · refine g_aload_n X dX0_addSlot_66 0 rfl ?_
    refine g_getR X fH_X0_36_302 rfl dX0_addSlot_67 ?_
    refine g_iload X dX0_addSlot_70 3 rfl ?_
    refine g_iload X dX0_addSlot_72 2 rfl ?_
    refine g_iast X aH_353 dX0_addSlot_74 h (fun t17 h => ?_)
    refine g_aload_n X dX0_addSlot_75 0 rfl ?_
    refine g_getR X fH_X0_26_302 rfl dX0_addSlot_76 ?_
    refine g_iload_n X dX0_addSlot_79 1 rfl ?_
    refine g_dup2 X rfl rfl dX0_addSlot_80 ?_
    refine g_iald X aH_350 dX0_addSlot_81 h (fun v18 h => ?_)
    refine g_iconst X dX0_addSlot_82 ?_
    refine g_iadd X dX0_addSlot_83 ?_
    refine g_iast X aH_350 dX0_addSlot_84 h (fun t19 h => ?_)
    exact g_vret X h dX0_addSlot_85
set_option maxHeartbeats 4000000 in
set_option maxRecDepth 100000 in
theorem cp_X0_addSlot (l : Launch) (E : cE) (r : Nat → Nat) (N : Nat) (a0 : Int) (a1 : Int) (a2 : Int) (a3 : Int) (t : St) (z : St) (h : f_X0_addSlot N a0 a1 a2 a3 t = some z) : cM l E yX0_addSlot cX0_addSlot 7 none rm_f_X0_addSlot [.ref (r 302), iv a0, iv a1, iv a2, iv a3] (gW E r shH t) (gqV E (gW E r shH) z) := by
  refine g_of (w := gW E r shH) (by decide) (Nat.le_of_ble_eq_true rfl) ?_
  intro p e s m below meth c A X
  exact g_sub (lv' := [(0, .ref (r 302)), (1, iv a0), (2, iv a1), (3, iv a2), (4, iv a3)]) [0, 1, 2, 3, 4] rfl (b_f_X0_addSlot X h)
theorem yy_X0_addSlot : cY yX0_addSlot cX0_addSlot 7 none 4 := ⟨wdK_X0_addSlot, wdZ_RX0, by decide +kernel⟩
theorem yi_X0_addSlot : cYi yX0_addSlot := ⟨wdN_X0_addSlot, wdS_X0_addSlot⟩
theorem dX0_addAllow_0 : decode cX0_addAllow 0 = .ok (.aload_n 0, 1) := by decide +kernel
theorem dX0_addAllow_1 : decode cX0_addAllow 1 = .ok (.getfield 84, 3) := by decide +kernel
theorem dX0_addAllow_4 : decode cX0_addAllow 4 = .ok (.bipush 32, 2) := by decide +kernel
theorem dX0_addAllow_6 : decode cX0_addAllow 6 = .ok (.if_icmp .ge 33, 3) := by decide +kernel
theorem dX0_addAllow_9 : decode cX0_addAllow 9 = .ok (.aload_n 0, 1) := by decide +kernel
theorem dX0_addAllow_10 : decode cX0_addAllow 10 = .ok (.getfield 60, 3) := by decide +kernel
theorem dX0_addAllow_13 : decode cX0_addAllow 13 = .ok (.aload_n 0, 1) := by decide +kernel
theorem dX0_addAllow_14 : decode cX0_addAllow 14 = .ok (.getfield 84, 3) := by decide +kernel
theorem dX0_addAllow_17 : decode cX0_addAllow 17 = .ok (.iload_n 1, 1) := by decide +kernel
theorem dX0_addAllow_18 : decode cX0_addAllow 18 = .ok (.iastore, 1) := by decide +kernel
theorem dX0_addAllow_19 : decode cX0_addAllow 19 = .ok (.aload_n 0, 1) := by decide +kernel
theorem dX0_addAllow_20 : decode cX0_addAllow 20 = .ok (.getfield 63, 3) := by decide +kernel
theorem dX0_addAllow_23 : decode cX0_addAllow 23 = .ok (.aload_n 0, 1) := by decide +kernel
theorem dX0_addAllow_24 : decode cX0_addAllow 24 = .ok (.getfield 84, 3) := by decide +kernel
theorem dX0_addAllow_27 : decode cX0_addAllow 27 = .ok (.iload_n 2, 1) := by decide +kernel
theorem dX0_addAllow_28 : decode cX0_addAllow 28 = .ok (.iastore, 1) := by decide +kernel
theorem dX0_addAllow_29 : decode cX0_addAllow 29 = .ok (.aload_n 0, 1) := by decide +kernel
theorem dX0_addAllow_30 : decode cX0_addAllow 30 = .ok (.dup, 1) := by decide +kernel
theorem dX0_addAllow_31 : decode cX0_addAllow 31 = .ok (.getfield 84, 3) := by decide +kernel
theorem dX0_addAllow_34 : decode cX0_addAllow 34 = .ok (.iconst 1, 1) := by decide +kernel
theorem dX0_addAllow_35 : decode cX0_addAllow 35 = .ok (.iadd, 1) := by decide +kernel
theorem dX0_addAllow_36 : decode cX0_addAllow 36 = .ok (.putfield 84, 3) := by decide +kernel
theorem dX0_addAllow_39 : decode cX0_addAllow 39 = .ok (.return_, 1) := by decide +kernel
abbrev rm_f_X0_addAllow : Room := { frames := 0, cells := 0, slots := 0, locals := 0 }
def f_X0_addAllow (N : Nat) (a0 : Int) (a1 : Int) (t : St) : Option (St) :=
    lt1 (t.1 302 16) fun v1 =>
    cmpI v1 32 (if v1 < 32 then (lt1 (t.1 302 16) fun v2 =>
    ixI v2 32 (lt1 (pI t 361 v2.toNat a0) fun t3 =>
    lt1 (t3.1 302 16) fun v4 =>
    ixI v4 32 (lt1 (pI t3 362 v4.toNat a1) fun t5 =>
    lt1 (t5.1 302 16) fun v6 =>
    lt1 (pI t5 302 16 (v6 + 1)) fun t7 =>
    some t7)))
    else (some t))
set_option maxHeartbeats 4000000 in
set_option maxRecDepth 100000 in
theorem b_f_X0_addAllow {p : Program} {l : Launch} {e : Env} {s : State} {m : MethodId} {args : Array Value} {below : List Frame} {meth : Method} {c : Code} {E : cE} {A : Nat → Prop} {r : Nat → Nat} {mc ms : Nat} {z : St} {N : Nat} {a0 : Int} {a1 : Int} {t : St} (X : gX p s m meth c cX0_addAllow 3 none yX0_addAllow args E A) (h : f_X0_addAllow N a0 a1 t = some z) : gP p l e rm_f_X0_addAllow s m args below meth c E A 3 (MQ below ((gqV E (gW E r shH) z) A) args s mc ms A) (gW E r shH) 0 [(0, .ref (r 302)), (1, iv a0), (2, iv a1)] [] t := by
  unfold f_X0_addAllow at h
  refine g_aload_n X dX0_addAllow_0 0 rfl ?_
  refine g_getI X fH_X0_84_302 rfl dX0_addAllow_1 h (fun v1 h => ?_)
  refine g_bipush X dX0_addAllow_4 (by decide) ?_
  refine g_icmp_ge (tgt := 39) X dX0_addAllow_6 (by decide) h (fun h => ?_) (fun h => ?_)
  · exact g_vret X h dX0_addAllow_39
  · refine g_aload_n X dX0_addAllow_9 0 rfl ?_
    refine g_getR X fH_X0_60_302 rfl dX0_addAllow_10 ?_
    refine g_aload_n X dX0_addAllow_13 0 rfl ?_
    refine g_getI X fH_X0_84_302 rfl dX0_addAllow_14 h (fun v2 h => ?_)
    refine g_iload_n X dX0_addAllow_17 1 rfl ?_
    refine g_iast X aH_361 dX0_addAllow_18 h (fun t3 h => ?_)
    refine g_aload_n X dX0_addAllow_19 0 rfl ?_
    refine g_getR X fH_X0_63_302 rfl dX0_addAllow_20 ?_
    refine g_aload_n X dX0_addAllow_23 0 rfl ?_
    refine g_getI X fH_X0_84_302 rfl dX0_addAllow_24 h (fun v4 h => ?_)
    refine g_iload_n X dX0_addAllow_27 2 rfl ?_
    refine g_iast X aH_362 dX0_addAllow_28 h (fun t5 h => ?_)
    refine g_aload_n X dX0_addAllow_29 0 rfl ?_
    refine g_dup X rfl dX0_addAllow_30 ?_
    refine g_getI X fH_X0_84_302 rfl dX0_addAllow_31 h (fun v6 h => ?_)
    refine g_iconst X dX0_addAllow_34 ?_
    refine g_iadd X dX0_addAllow_35 ?_
    refine g_putI X fH_X0_84_302w rfl dX0_addAllow_36 h (fun t7 h => ?_)
    exact g_vret X h dX0_addAllow_39
set_option maxHeartbeats 4000000 in
set_option maxRecDepth 100000 in
theorem cp_X0_addAllow (l : Launch) (E : cE) (r : Nat → Nat) (N : Nat) (a0 : Int) (a1 : Int) (t : St) (z : St) (h : f_X0_addAllow N a0 a1 t = some z) : cM l E yX0_addAllow cX0_addAllow 3 none rm_f_X0_addAllow [.ref (r 302), iv a0, iv a1] (gW E r shH t) (gqV E (gW E r shH) z) := by
  refine g_of (w := gW E r shH) (by decide) (Nat.le_of_ble_eq_true rfl) ?_
  intro p e s m below meth c A X
  exact g_sub (lv' := [(0, .ref (r 302)), (1, iv a0), (2, iv a1)]) [0, 1, 2] rfl (b_f_X0_addAllow X h)
theorem yy_X0_addAllow : cY yX0_addAllow cX0_addAllow 3 none 2 := ⟨wdK_X0_addAllow, wdZ_RX0, by decide +kernel⟩
theorem yi_X0_addAllow : cYi yX0_addAllow := ⟨wdN_X0_addAllow, wdS_X0_addAllow⟩
theorem dX1_value_0 : decode cX1_value 0 = .ok (.aload_n 0, 1) := by decide +kernel
theorem dX1_value_1 : decode cX1_value 1 = .ok (.getfield 11, 3) := by decide +kernel
theorem dX1_value_4 : decode cX1_value 4 = .ok (.iconst 0, 1) := by decide +kernel
theorem dX1_value_5 : decode cX1_value 5 = .ok (.laload, 1) := by decide +kernel
theorem dX1_value_6 : decode cX1_value 6 = .ok (.lreturn, 1) := by decide +kernel
abbrev rm_f_X1_value : Room := { frames := 0, cells := 0, slots := 0, locals := 0 }
def f_X1_value (N : Nat) (t : St) : Option (Int64 × St) :=
    ixI 0 96 (lt1 (t.2 370 (0 : Int).toNat) fun v1 =>
    some (v1, t))
set_option maxHeartbeats 4000000 in
set_option maxRecDepth 100000 in
theorem b_f_X1_value {p : Program} {l : Launch} {e : Env} {s : State} {m : MethodId} {args : Array Value} {below : List Frame} {meth : Method} {c : Code} {E : cE} {A : Nat → Prop} {r : Nat → Nat} {mc ms : Nat} {z : Int64 × St} {N : Nat} {t : St} (X : gX p s m meth c cX1_value 1 (some .long) yX1_value args E A) (h : f_X1_value N t = some z) : gP p l e rm_f_X1_value s m args below meth c E A 1 (MQ below ((gqL E (gW E r shH) z) A) args s mc ms A) (gW E r shH) 0 [(0, .ref (r 304))] [] t := by
  unfold f_X1_value at h
  refine g_aload_n X dX1_value_0 0 rfl ?_
  refine g_getR X fH_X1_11_304 rfl dX1_value_1 ?_
  refine g_iconst X dX1_value_4 ?_
  refine g_lald X aH_370 dX1_value_5 h (fun v1 h => ?_)
  exact g_lret X h dX1_value_6
set_option maxHeartbeats 4000000 in
set_option maxRecDepth 100000 in
theorem cp_X1_value (l : Launch) (E : cE) (r : Nat → Nat) (N : Nat) (t : St) (z : Int64 × St) (h : f_X1_value N t = some z) : cM l E yX1_value cX1_value 1 (some .long) rm_f_X1_value [.ref (r 304)] (gW E r shH t) (gqL E (gW E r shH) z) := by
  refine g_of (w := gW E r shH) (by decide) (Nat.le_of_ble_eq_true rfl) ?_
  intro p e s m below meth c A X
  exact g_sub (lv' := [(0, .ref (r 304))]) [0] rfl (b_f_X1_value X h)
theorem yy_X1_value : cY yX1_value cX1_value 1 (some .long) 0 := ⟨wdK_X1_value, wdZ_RX1, by decide +kernel⟩
theorem yi_X1_value : cYi yX1_value := ⟨wdN_X1_value, wdS_X1_value⟩
theorem dX1_joined_0 : decode cX1_joined 0 = .ok (.iload_n 0, 1) := by decide +kernel
theorem dX1_joined_1 : decode cX1_joined 1 = .ok (.bipush 10, 2) := by decide +kernel
theorem dX1_joined_3 : decode cX1_joined 3 = .ok (.if_icmp .ne 9, 3) := by decide +kernel
theorem dX1_joined_6 : decode cX1_joined 6 = .ok (.lload_n 1, 1) := by decide +kernel
theorem dX1_joined_7 : decode cX1_joined 7 = .ok (.lload_n 3, 1) := by decide +kernel
theorem dX1_joined_8 : decode cX1_joined 8 = .ok (.land, 1) := by decide +kernel
theorem dX1_joined_9 : decode cX1_joined 9 = .ok (.goto 6, 3) := by decide +kernel
theorem dX1_joined_12 : decode cX1_joined 12 = .ok (.lload_n 1, 1) := by decide +kernel
theorem dX1_joined_13 : decode cX1_joined 13 = .ok (.lload_n 3, 1) := by decide +kernel
theorem dX1_joined_14 : decode cX1_joined 14 = .ok (.lor, 1) := by decide +kernel
theorem dX1_joined_15 : decode cX1_joined 15 = .ok (.lreturn, 1) := by decide +kernel
abbrev rm_f_X1_joined : Room := { frames := 0, cells := 0, slots := 0, locals := 0 }
def f_X1_joined (N : Nat) (a0 : Int) (a1 : Int64) (a2 : Int64) (t : St) : Option (Int64 × St) :=
    cmpI a0 10 (if a0 = 10 then (some (a1 &&& a2, t))
    else (some (a1 ||| a2, t)))
set_option maxHeartbeats 4000000 in
set_option maxRecDepth 100000 in
theorem b_f_X1_joined {p : Program} {l : Launch} {e : Env} {s : State} {m : MethodId} {args : Array Value} {below : List Frame} {meth : Method} {c : Code} {E : cE} {A : Nat → Prop} {r : Nat → Nat} {mc ms : Nat} {z : Int64 × St} {N : Nat} {a0 : Int} {a1 : Int64} {a2 : Int64} {t : St} (X : gX p s m meth c cX1_joined 5 (some .long) yX1_joined args E A) (h : f_X1_joined N a0 a1 a2 t = some z) : gP p l e rm_f_X1_joined s m args below meth c E A 5 (MQ below ((gqL E (gW E r shH) z) A) args s mc ms A) (gW E r shH) 0 [(0, iv a0), (1, .long a1), (3, .long a2)] [] t := by
  unfold f_X1_joined at h
  refine g_iload_n X dX1_joined_0 0 rfl ?_
  refine g_bipush X dX1_joined_1 (by decide) ?_
  refine g_icmp_ne (tgt := 12) X dX1_joined_3 (by decide) h (fun h => ?_) (fun h => ?_)
  · refine g_lload_n X dX1_joined_12 1 rfl ?_
    refine g_lload_n X dX1_joined_13 2 rfl ?_
    refine g_lor X dX1_joined_14 ?_
    exact g_lret X h dX1_joined_15
  · refine g_lload_n X dX1_joined_6 1 rfl ?_
    refine g_lload_n X dX1_joined_7 2 rfl ?_
    refine g_land X dX1_joined_8 ?_
    refine g_goto (tgt := 15) X dX1_joined_9 (by decide) ?_
    exact g_lret X h dX1_joined_15
set_option maxHeartbeats 4000000 in
set_option maxRecDepth 100000 in
theorem cp_X1_joined (l : Launch) (E : cE) (r : Nat → Nat) (N : Nat) (a0 : Int) (a1 : Int64) (a2 : Int64) (t : St) (z : Int64 × St) (h : f_X1_joined N a0 a1 a2 t = some z) : cM l E yX1_joined cX1_joined 5 (some .long) rm_f_X1_joined [iv a0, .long a1, .long a2] (gW E r shH t) (gqL E (gW E r shH) z) := by
  refine g_of (w := gW E r shH) (by decide) (Nat.le_of_ble_eq_true rfl) ?_
  intro p e s m below meth c A X
  exact g_sub (lv' := [(0, iv a0), (1, .long a1), (3, .long a2)]) [0, 1, 2] rfl (b_f_X1_joined X h)
theorem yy_X1_joined : cY yX1_joined cX1_joined 5 (some .long) 3 := ⟨wdK_X1_joined, wdZ_RX1, by decide +kernel⟩
theorem dJ13_bitCount_95d88_0 : decode cJ13_bitCount_95d88 0 = .ok (.lload_n 0, 1) := by decide +kernel
theorem dJ13_bitCount_95d88_1 : decode cJ13_bitCount_95d88 1 = .ok (.lload_n 0, 1) := by decide +kernel
theorem dJ13_bitCount_95d88_2 : decode cJ13_bitCount_95d88 2 = .ok (.iconst 1, 1) := by decide +kernel
theorem dJ13_bitCount_95d88_3 : decode cJ13_bitCount_95d88 3 = .ok (.lushr, 1) := by decide +kernel
theorem dJ13_bitCount_95d88_4 : decode cJ13_bitCount_95d88 4 = .ok (.ldc2_w 314, 3) := by decide +kernel
theorem dJ13_bitCount_95d88_7 : decode cJ13_bitCount_95d88 7 = .ok (.land, 1) := by decide +kernel
theorem dJ13_bitCount_95d88_8 : decode cJ13_bitCount_95d88 8 = .ok (.lsub, 1) := by decide +kernel
theorem dJ13_bitCount_95d88_9 : decode cJ13_bitCount_95d88 9 = .ok (.lstore_n 0, 1) := by decide +kernel
theorem dJ13_bitCount_95d88_10 : decode cJ13_bitCount_95d88 10 = .ok (.lload_n 0, 1) := by decide +kernel
theorem dJ13_bitCount_95d88_11 : decode cJ13_bitCount_95d88 11 = .ok (.ldc2_w 316, 3) := by decide +kernel
theorem dJ13_bitCount_95d88_14 : decode cJ13_bitCount_95d88 14 = .ok (.land, 1) := by decide +kernel
theorem dJ13_bitCount_95d88_15 : decode cJ13_bitCount_95d88 15 = .ok (.lload_n 0, 1) := by decide +kernel
theorem dJ13_bitCount_95d88_16 : decode cJ13_bitCount_95d88 16 = .ok (.iconst 2, 1) := by decide +kernel
theorem dJ13_bitCount_95d88_17 : decode cJ13_bitCount_95d88 17 = .ok (.lushr, 1) := by decide +kernel
theorem dJ13_bitCount_95d88_18 : decode cJ13_bitCount_95d88 18 = .ok (.ldc2_w 316, 3) := by decide +kernel
theorem dJ13_bitCount_95d88_21 : decode cJ13_bitCount_95d88 21 = .ok (.land, 1) := by decide +kernel
theorem dJ13_bitCount_95d88_22 : decode cJ13_bitCount_95d88 22 = .ok (.ladd, 1) := by decide +kernel
theorem dJ13_bitCount_95d88_23 : decode cJ13_bitCount_95d88 23 = .ok (.lstore_n 0, 1) := by decide +kernel
theorem dJ13_bitCount_95d88_24 : decode cJ13_bitCount_95d88 24 = .ok (.lload_n 0, 1) := by decide +kernel
theorem dJ13_bitCount_95d88_25 : decode cJ13_bitCount_95d88 25 = .ok (.lload_n 0, 1) := by decide +kernel
theorem dJ13_bitCount_95d88_26 : decode cJ13_bitCount_95d88 26 = .ok (.iconst 4, 1) := by decide +kernel
theorem dJ13_bitCount_95d88_27 : decode cJ13_bitCount_95d88 27 = .ok (.lushr, 1) := by decide +kernel
theorem dJ13_bitCount_95d88_28 : decode cJ13_bitCount_95d88 28 = .ok (.ladd, 1) := by decide +kernel
theorem dJ13_bitCount_95d88_29 : decode cJ13_bitCount_95d88 29 = .ok (.ldc2_w 318, 3) := by decide +kernel
theorem dJ13_bitCount_95d88_32 : decode cJ13_bitCount_95d88 32 = .ok (.land, 1) := by decide +kernel
theorem dJ13_bitCount_95d88_33 : decode cJ13_bitCount_95d88 33 = .ok (.lstore_n 0, 1) := by decide +kernel
theorem dJ13_bitCount_95d88_34 : decode cJ13_bitCount_95d88 34 = .ok (.lload_n 0, 1) := by decide +kernel
theorem dJ13_bitCount_95d88_35 : decode cJ13_bitCount_95d88 35 = .ok (.lload_n 0, 1) := by decide +kernel
theorem dJ13_bitCount_95d88_36 : decode cJ13_bitCount_95d88 36 = .ok (.bipush 8, 2) := by decide +kernel
theorem dJ13_bitCount_95d88_38 : decode cJ13_bitCount_95d88 38 = .ok (.lushr, 1) := by decide +kernel
theorem dJ13_bitCount_95d88_39 : decode cJ13_bitCount_95d88 39 = .ok (.ladd, 1) := by decide +kernel
theorem dJ13_bitCount_95d88_40 : decode cJ13_bitCount_95d88 40 = .ok (.lstore_n 0, 1) := by decide +kernel
theorem dJ13_bitCount_95d88_41 : decode cJ13_bitCount_95d88 41 = .ok (.lload_n 0, 1) := by decide +kernel
theorem dJ13_bitCount_95d88_42 : decode cJ13_bitCount_95d88 42 = .ok (.lload_n 0, 1) := by decide +kernel
theorem dJ13_bitCount_95d88_43 : decode cJ13_bitCount_95d88 43 = .ok (.bipush 16, 2) := by decide +kernel
theorem dJ13_bitCount_95d88_45 : decode cJ13_bitCount_95d88 45 = .ok (.lushr, 1) := by decide +kernel
theorem dJ13_bitCount_95d88_46 : decode cJ13_bitCount_95d88 46 = .ok (.ladd, 1) := by decide +kernel
theorem dJ13_bitCount_95d88_47 : decode cJ13_bitCount_95d88 47 = .ok (.lstore_n 0, 1) := by decide +kernel
theorem dJ13_bitCount_95d88_48 : decode cJ13_bitCount_95d88 48 = .ok (.lload_n 0, 1) := by decide +kernel
theorem dJ13_bitCount_95d88_49 : decode cJ13_bitCount_95d88 49 = .ok (.lload_n 0, 1) := by decide +kernel
theorem dJ13_bitCount_95d88_50 : decode cJ13_bitCount_95d88 50 = .ok (.bipush 32, 2) := by decide +kernel
theorem dJ13_bitCount_95d88_52 : decode cJ13_bitCount_95d88 52 = .ok (.lushr, 1) := by decide +kernel
theorem dJ13_bitCount_95d88_53 : decode cJ13_bitCount_95d88 53 = .ok (.ladd, 1) := by decide +kernel
theorem dJ13_bitCount_95d88_54 : decode cJ13_bitCount_95d88 54 = .ok (.lstore_n 0, 1) := by decide +kernel
theorem dJ13_bitCount_95d88_55 : decode cJ13_bitCount_95d88 55 = .ok (.lload_n 0, 1) := by decide +kernel
theorem dJ13_bitCount_95d88_56 : decode cJ13_bitCount_95d88 56 = .ok (.l2i, 1) := by decide +kernel
theorem dJ13_bitCount_95d88_57 : decode cJ13_bitCount_95d88 57 = .ok (.bipush 127, 2) := by decide +kernel
theorem dJ13_bitCount_95d88_59 : decode cJ13_bitCount_95d88 59 = .ok (.iand, 1) := by decide +kernel
theorem dJ13_bitCount_95d88_60 : decode cJ13_bitCount_95d88 60 = .ok (.ireturn, 1) := by decide +kernel
abbrev rm_f_J13_bitCount_95d88 : Room := { frames := 0, cells := 0, slots := 0, locals := 0 }
def f_J13_bitCount_95d88 (N : Nat) (a0 : Int64) (t : St) : Option (Int × St) :=
    some ((((((((((a0 - ((ushrL a0 1) &&& (6148914691236517205 : Int64))) &&& (3689348814741910323 : Int64)) + ((ushrL (a0 - ((ushrL a0 1) &&& (6148914691236517205 : Int64))) 2) &&& (3689348814741910323 : Int64))) + (ushrL (((a0 - ((ushrL a0 1) &&& (6148914691236517205 : Int64))) &&& (3689348814741910323 : Int64)) + ((ushrL (a0 - ((ushrL a0 1) &&& (6148914691236517205 : Int64))) 2) &&& (3689348814741910323 : Int64))) 4)) &&& (1085102592571150095 : Int64)) + (ushrL (((((a0 - ((ushrL a0 1) &&& (6148914691236517205 : Int64))) &&& (3689348814741910323 : Int64)) + ((ushrL (a0 - ((ushrL a0 1) &&& (6148914691236517205 : Int64))) 2) &&& (3689348814741910323 : Int64))) + (ushrL (((a0 - ((ushrL a0 1) &&& (6148914691236517205 : Int64))) &&& (3689348814741910323 : Int64)) + ((ushrL (a0 - ((ushrL a0 1) &&& (6148914691236517205 : Int64))) 2) &&& (3689348814741910323 : Int64))) 4)) &&& (1085102592571150095 : Int64)) 8)) + (ushrL ((((((a0 - ((ushrL a0 1) &&& (6148914691236517205 : Int64))) &&& (3689348814741910323 : Int64)) + ((ushrL (a0 - ((ushrL a0 1) &&& (6148914691236517205 : Int64))) 2) &&& (3689348814741910323 : Int64))) + (ushrL (((a0 - ((ushrL a0 1) &&& (6148914691236517205 : Int64))) &&& (3689348814741910323 : Int64)) + ((ushrL (a0 - ((ushrL a0 1) &&& (6148914691236517205 : Int64))) 2) &&& (3689348814741910323 : Int64))) 4)) &&& (1085102592571150095 : Int64)) + (ushrL (((((a0 - ((ushrL a0 1) &&& (6148914691236517205 : Int64))) &&& (3689348814741910323 : Int64)) + ((ushrL (a0 - ((ushrL a0 1) &&& (6148914691236517205 : Int64))) 2) &&& (3689348814741910323 : Int64))) + (ushrL (((a0 - ((ushrL a0 1) &&& (6148914691236517205 : Int64))) &&& (3689348814741910323 : Int64)) + ((ushrL (a0 - ((ushrL a0 1) &&& (6148914691236517205 : Int64))) 2) &&& (3689348814741910323 : Int64))) 4)) &&& (1085102592571150095 : Int64)) 8)) 16)) + (ushrL (((((((a0 - ((ushrL a0 1) &&& (6148914691236517205 : Int64))) &&& (3689348814741910323 : Int64)) + ((ushrL (a0 - ((ushrL a0 1) &&& (6148914691236517205 : Int64))) 2) &&& (3689348814741910323 : Int64))) + (ushrL (((a0 - ((ushrL a0 1) &&& (6148914691236517205 : Int64))) &&& (3689348814741910323 : Int64)) + ((ushrL (a0 - ((ushrL a0 1) &&& (6148914691236517205 : Int64))) 2) &&& (3689348814741910323 : Int64))) 4)) &&& (1085102592571150095 : Int64)) + (ushrL (((((a0 - ((ushrL a0 1) &&& (6148914691236517205 : Int64))) &&& (3689348814741910323 : Int64)) + ((ushrL (a0 - ((ushrL a0 1) &&& (6148914691236517205 : Int64))) 2) &&& (3689348814741910323 : Int64))) + (ushrL (((a0 - ((ushrL a0 1) &&& (6148914691236517205 : Int64))) &&& (3689348814741910323 : Int64)) + ((ushrL (a0 - ((ushrL a0 1) &&& (6148914691236517205 : Int64))) 2) &&& (3689348814741910323 : Int64))) 4)) &&& (1085102592571150095 : Int64)) 8)) + (ushrL ((((((a0 - ((ushrL a0 1) &&& (6148914691236517205 : Int64))) &&& (3689348814741910323 : Int64)) + ((ushrL (a0 - ((ushrL a0 1) &&& (6148914691236517205 : Int64))) 2) &&& (3689348814741910323 : Int64))) + (ushrL (((a0 - ((ushrL a0 1) &&& (6148914691236517205 : Int64))) &&& (3689348814741910323 : Int64)) + ((ushrL (a0 - ((ushrL a0 1) &&& (6148914691236517205 : Int64))) 2) &&& (3689348814741910323 : Int64))) 4)) &&& (1085102592571150095 : Int64)) + (ushrL (((((a0 - ((ushrL a0 1) &&& (6148914691236517205 : Int64))) &&& (3689348814741910323 : Int64)) + ((ushrL (a0 - ((ushrL a0 1) &&& (6148914691236517205 : Int64))) 2) &&& (3689348814741910323 : Int64))) + (ushrL (((a0 - ((ushrL a0 1) &&& (6148914691236517205 : Int64))) &&& (3689348814741910323 : Int64)) + ((ushrL (a0 - ((ushrL a0 1) &&& (6148914691236517205 : Int64))) 2) &&& (3689348814741910323 : Int64))) 4)) &&& (1085102592571150095 : Int64)) 8)) 16)) 32)).toInt) % 128, t)
set_option maxHeartbeats 4000000 in
set_option maxRecDepth 100000 in
theorem b_f_J13_bitCount_95d88 {p : Program} {l : Launch} {e : Env} {s : State} {m : MethodId} {args : Array Value} {below : List Frame} {meth : Method} {c : Code} {E : cE} {A : Nat → Prop} {r : Nat → Nat} {mc ms : Nat} {z : Int × St} {N : Nat} {a0 : Int64} {t : St} (X : gX p s m meth c cJ13_bitCount_95d88 2 (some .int) yJ13_bitCount_95d88 args E A) (h : f_J13_bitCount_95d88 N a0 t = some z) : gP p l e rm_f_J13_bitCount_95d88 s m args below meth c E A 2 (MQ below ((gqI E (gW E r shH) z) A) args s mc ms A) (gW E r shH) 0 [(0, .long a0)] [] t := by
  unfold f_J13_bitCount_95d88 at h
  refine g_lload_n X dJ13_bitCount_95d88_0 0 rfl ?_
  refine g_lload_n X dJ13_bitCount_95d88_1 0 rfl ?_
  refine g_iconst X dJ13_bitCount_95d88_2 ?_
  refine g_lushr X dJ13_bitCount_95d88_3 ?_
  refine g_ldc2 X rfl wdL_RJ13_314 dJ13_bitCount_95d88_4 ?_
  refine g_land X dJ13_bitCount_95d88_7 ?_
  refine g_lsub X dJ13_bitCount_95d88_8 ?_
  refine g_lstore_n (lv' := [(0, .long (a0 - ((ushrL a0 1) &&& (6148914691236517205 : Int64))))]) X dJ13_bitCount_95d88_9 rfl (by decide) rfl ?_
  refine g_lload_n X dJ13_bitCount_95d88_10 0 rfl ?_
  refine g_ldc2 X rfl wdL_RJ13_316 dJ13_bitCount_95d88_11 ?_
  refine g_land X dJ13_bitCount_95d88_14 ?_
  refine g_lload_n X dJ13_bitCount_95d88_15 0 rfl ?_
  refine g_iconst X dJ13_bitCount_95d88_16 ?_
  refine g_lushr X dJ13_bitCount_95d88_17 ?_
  refine g_ldc2 X rfl wdL_RJ13_316 dJ13_bitCount_95d88_18 ?_
  refine g_land X dJ13_bitCount_95d88_21 ?_
  refine g_ladd X dJ13_bitCount_95d88_22 ?_
  refine g_lstore_n (lv' := [(0, .long (((a0 - ((ushrL a0 1) &&& (6148914691236517205 : Int64))) &&& (3689348814741910323 : Int64)) + ((ushrL (a0 - ((ushrL a0 1) &&& (6148914691236517205 : Int64))) 2) &&& (3689348814741910323 : Int64))))]) X dJ13_bitCount_95d88_23 rfl (by decide) rfl ?_
  refine g_lload_n X dJ13_bitCount_95d88_24 0 rfl ?_
  refine g_lload_n X dJ13_bitCount_95d88_25 0 rfl ?_
  refine g_iconst X dJ13_bitCount_95d88_26 ?_
  refine g_lushr X dJ13_bitCount_95d88_27 ?_
  refine g_ladd X dJ13_bitCount_95d88_28 ?_
  refine g_ldc2 X rfl wdL_RJ13_318 dJ13_bitCount_95d88_29 ?_
  refine g_land X dJ13_bitCount_95d88_32 ?_
  refine g_lstore_n (lv' := [(0, .long (((((a0 - ((ushrL a0 1) &&& (6148914691236517205 : Int64))) &&& (3689348814741910323 : Int64)) + ((ushrL (a0 - ((ushrL a0 1) &&& (6148914691236517205 : Int64))) 2) &&& (3689348814741910323 : Int64))) + (ushrL (((a0 - ((ushrL a0 1) &&& (6148914691236517205 : Int64))) &&& (3689348814741910323 : Int64)) + ((ushrL (a0 - ((ushrL a0 1) &&& (6148914691236517205 : Int64))) 2) &&& (3689348814741910323 : Int64))) 4)) &&& (1085102592571150095 : Int64)))]) X dJ13_bitCount_95d88_33 rfl (by decide) rfl ?_
  refine g_lload_n X dJ13_bitCount_95d88_34 0 rfl ?_
  refine g_lload_n X dJ13_bitCount_95d88_35 0 rfl ?_
  refine g_bipush X dJ13_bitCount_95d88_36 (by decide) ?_
  refine g_lushr X dJ13_bitCount_95d88_38 ?_
  refine g_ladd X dJ13_bitCount_95d88_39 ?_
  refine g_lstore_n (lv' := [(0, .long ((((((a0 - ((ushrL a0 1) &&& (6148914691236517205 : Int64))) &&& (3689348814741910323 : Int64)) + ((ushrL (a0 - ((ushrL a0 1) &&& (6148914691236517205 : Int64))) 2) &&& (3689348814741910323 : Int64))) + (ushrL (((a0 - ((ushrL a0 1) &&& (6148914691236517205 : Int64))) &&& (3689348814741910323 : Int64)) + ((ushrL (a0 - ((ushrL a0 1) &&& (6148914691236517205 : Int64))) 2) &&& (3689348814741910323 : Int64))) 4)) &&& (1085102592571150095 : Int64)) + (ushrL (((((a0 - ((ushrL a0 1) &&& (6148914691236517205 : Int64))) &&& (3689348814741910323 : Int64)) + ((ushrL (a0 - ((ushrL a0 1) &&& (6148914691236517205 : Int64))) 2) &&& (3689348814741910323 : Int64))) + (ushrL (((a0 - ((ushrL a0 1) &&& (6148914691236517205 : Int64))) &&& (3689348814741910323 : Int64)) + ((ushrL (a0 - ((ushrL a0 1) &&& (6148914691236517205 : Int64))) 2) &&& (3689348814741910323 : Int64))) 4)) &&& (1085102592571150095 : Int64)) 8)))]) X dJ13_bitCount_95d88_40 rfl (by decide) rfl ?_
  refine g_lload_n X dJ13_bitCount_95d88_41 0 rfl ?_
  refine g_lload_n X dJ13_bitCount_95d88_42 0 rfl ?_
  refine g_bipush X dJ13_bitCount_95d88_43 (by decide) ?_
  refine g_lushr X dJ13_bitCount_95d88_45 ?_
  refine g_ladd X dJ13_bitCount_95d88_46 ?_
  refine g_lstore_n (lv' := [(0, .long (((((((a0 - ((ushrL a0 1) &&& (6148914691236517205 : Int64))) &&& (3689348814741910323 : Int64)) + ((ushrL (a0 - ((ushrL a0 1) &&& (6148914691236517205 : Int64))) 2) &&& (3689348814741910323 : Int64))) + (ushrL (((a0 - ((ushrL a0 1) &&& (6148914691236517205 : Int64))) &&& (3689348814741910323 : Int64)) + ((ushrL (a0 - ((ushrL a0 1) &&& (6148914691236517205 : Int64))) 2) &&& (3689348814741910323 : Int64))) 4)) &&& (1085102592571150095 : Int64)) + (ushrL (((((a0 - ((ushrL a0 1) &&& (6148914691236517205 : Int64))) &&& (3689348814741910323 : Int64)) + ((ushrL (a0 - ((ushrL a0 1) &&& (6148914691236517205 : Int64))) 2) &&& (3689348814741910323 : Int64))) + (ushrL (((a0 - ((ushrL a0 1) &&& (6148914691236517205 : Int64))) &&& (3689348814741910323 : Int64)) + ((ushrL (a0 - ((ushrL a0 1) &&& (6148914691236517205 : Int64))) 2) &&& (3689348814741910323 : Int64))) 4)) &&& (1085102592571150095 : Int64)) 8)) + (ushrL ((((((a0 - ((ushrL a0 1) &&& (6148914691236517205 : Int64))) &&& (3689348814741910323 : Int64)) + ((ushrL (a0 - ((ushrL a0 1) &&& (6148914691236517205 : Int64))) 2) &&& (3689348814741910323 : Int64))) + (ushrL (((a0 - ((ushrL a0 1) &&& (6148914691236517205 : Int64))) &&& (3689348814741910323 : Int64)) + ((ushrL (a0 - ((ushrL a0 1) &&& (6148914691236517205 : Int64))) 2) &&& (3689348814741910323 : Int64))) 4)) &&& (1085102592571150095 : Int64)) + (ushrL (((((a0 - ((ushrL a0 1) &&& (6148914691236517205 : Int64))) &&& (3689348814741910323 : Int64)) + ((ushrL (a0 - ((ushrL a0 1) &&& (6148914691236517205 : Int64))) 2) &&& (3689348814741910323 : Int64))) + (ushrL (((a0 - ((ushrL a0 1) &&& (6148914691236517205 : Int64))) &&& (3689348814741910323 : Int64)) + ((ushrL (a0 - ((ushrL a0 1) &&& (6148914691236517205 : Int64))) 2) &&& (3689348814741910323 : Int64))) 4)) &&& (1085102592571150095 : Int64)) 8)) 16)))]) X dJ13_bitCount_95d88_47 rfl (by decide) rfl ?_
  refine g_lload_n X dJ13_bitCount_95d88_48 0 rfl ?_
  refine g_lload_n X dJ13_bitCount_95d88_49 0 rfl ?_
  refine g_bipush X dJ13_bitCount_95d88_50 (by decide) ?_
  refine g_lushr X dJ13_bitCount_95d88_52 ?_
  refine g_ladd X dJ13_bitCount_95d88_53 ?_
  refine g_lstore_n (lv' := [(0, .long ((((((((a0 - ((ushrL a0 1) &&& (6148914691236517205 : Int64))) &&& (3689348814741910323 : Int64)) + ((ushrL (a0 - ((ushrL a0 1) &&& (6148914691236517205 : Int64))) 2) &&& (3689348814741910323 : Int64))) + (ushrL (((a0 - ((ushrL a0 1) &&& (6148914691236517205 : Int64))) &&& (3689348814741910323 : Int64)) + ((ushrL (a0 - ((ushrL a0 1) &&& (6148914691236517205 : Int64))) 2) &&& (3689348814741910323 : Int64))) 4)) &&& (1085102592571150095 : Int64)) + (ushrL (((((a0 - ((ushrL a0 1) &&& (6148914691236517205 : Int64))) &&& (3689348814741910323 : Int64)) + ((ushrL (a0 - ((ushrL a0 1) &&& (6148914691236517205 : Int64))) 2) &&& (3689348814741910323 : Int64))) + (ushrL (((a0 - ((ushrL a0 1) &&& (6148914691236517205 : Int64))) &&& (3689348814741910323 : Int64)) + ((ushrL (a0 - ((ushrL a0 1) &&& (6148914691236517205 : Int64))) 2) &&& (3689348814741910323 : Int64))) 4)) &&& (1085102592571150095 : Int64)) 8)) + (ushrL ((((((a0 - ((ushrL a0 1) &&& (6148914691236517205 : Int64))) &&& (3689348814741910323 : Int64)) + ((ushrL (a0 - ((ushrL a0 1) &&& (6148914691236517205 : Int64))) 2) &&& (3689348814741910323 : Int64))) + (ushrL (((a0 - ((ushrL a0 1) &&& (6148914691236517205 : Int64))) &&& (3689348814741910323 : Int64)) + ((ushrL (a0 - ((ushrL a0 1) &&& (6148914691236517205 : Int64))) 2) &&& (3689348814741910323 : Int64))) 4)) &&& (1085102592571150095 : Int64)) + (ushrL (((((a0 - ((ushrL a0 1) &&& (6148914691236517205 : Int64))) &&& (3689348814741910323 : Int64)) + ((ushrL (a0 - ((ushrL a0 1) &&& (6148914691236517205 : Int64))) 2) &&& (3689348814741910323 : Int64))) + (ushrL (((a0 - ((ushrL a0 1) &&& (6148914691236517205 : Int64))) &&& (3689348814741910323 : Int64)) + ((ushrL (a0 - ((ushrL a0 1) &&& (6148914691236517205 : Int64))) 2) &&& (3689348814741910323 : Int64))) 4)) &&& (1085102592571150095 : Int64)) 8)) 16)) + (ushrL (((((((a0 - ((ushrL a0 1) &&& (6148914691236517205 : Int64))) &&& (3689348814741910323 : Int64)) + ((ushrL (a0 - ((ushrL a0 1) &&& (6148914691236517205 : Int64))) 2) &&& (3689348814741910323 : Int64))) + (ushrL (((a0 - ((ushrL a0 1) &&& (6148914691236517205 : Int64))) &&& (3689348814741910323 : Int64)) + ((ushrL (a0 - ((ushrL a0 1) &&& (6148914691236517205 : Int64))) 2) &&& (3689348814741910323 : Int64))) 4)) &&& (1085102592571150095 : Int64)) + (ushrL (((((a0 - ((ushrL a0 1) &&& (6148914691236517205 : Int64))) &&& (3689348814741910323 : Int64)) + ((ushrL (a0 - ((ushrL a0 1) &&& (6148914691236517205 : Int64))) 2) &&& (3689348814741910323 : Int64))) + (ushrL (((a0 - ((ushrL a0 1) &&& (6148914691236517205 : Int64))) &&& (3689348814741910323 : Int64)) + ((ushrL (a0 - ((ushrL a0 1) &&& (6148914691236517205 : Int64))) 2) &&& (3689348814741910323 : Int64))) 4)) &&& (1085102592571150095 : Int64)) 8)) + (ushrL ((((((a0 - ((ushrL a0 1) &&& (6148914691236517205 : Int64))) &&& (3689348814741910323 : Int64)) + ((ushrL (a0 - ((ushrL a0 1) &&& (6148914691236517205 : Int64))) 2) &&& (3689348814741910323 : Int64))) + (ushrL (((a0 - ((ushrL a0 1) &&& (6148914691236517205 : Int64))) &&& (3689348814741910323 : Int64)) + ((ushrL (a0 - ((ushrL a0 1) &&& (6148914691236517205 : Int64))) 2) &&& (3689348814741910323 : Int64))) 4)) &&& (1085102592571150095 : Int64)) + (ushrL (((((a0 - ((ushrL a0 1) &&& (6148914691236517205 : Int64))) &&& (3689348814741910323 : Int64)) + ((ushrL (a0 - ((ushrL a0 1) &&& (6148914691236517205 : Int64))) 2) &&& (3689348814741910323 : Int64))) + (ushrL (((a0 - ((ushrL a0 1) &&& (6148914691236517205 : Int64))) &&& (3689348814741910323 : Int64)) + ((ushrL (a0 - ((ushrL a0 1) &&& (6148914691236517205 : Int64))) 2) &&& (3689348814741910323 : Int64))) 4)) &&& (1085102592571150095 : Int64)) 8)) 16)) 32)))]) X dJ13_bitCount_95d88_54 rfl (by decide) rfl ?_
  refine g_lload_n X dJ13_bitCount_95d88_55 0 rfl ?_
  refine g_l2i X dJ13_bitCount_95d88_56 ?_
  refine g_bipush X dJ13_bitCount_95d88_57 (by decide) ?_
  refine g_mask X 7 (by decide) (M := 128) (by decide) (by decide) dJ13_bitCount_95d88_59 ?_
  exact g_iret X h dJ13_bitCount_95d88_60
set_option maxHeartbeats 4000000 in
set_option maxRecDepth 100000 in
theorem cp_J13_bitCount_95d88 (l : Launch) (E : cE) (r : Nat → Nat) (N : Nat) (a0 : Int64) (t : St) (z : Int × St) (h : f_J13_bitCount_95d88 N a0 t = some z) : cM l E yJ13_bitCount_95d88 cJ13_bitCount_95d88 2 (some .int) rm_f_J13_bitCount_95d88 [.long a0] (gW E r shH t) (gqI E (gW E r shH) z) := by
  refine g_of (w := gW E r shH) (by decide) (Nat.le_of_ble_eq_true rfl) ?_
  intro p e s m below meth c A X
  exact g_sub (lv' := [(0, .long a0)]) [0] rfl (b_f_J13_bitCount_95d88 X h)
theorem yy_J13_bitCount_95d88 : cY yJ13_bitCount_95d88 cJ13_bitCount_95d88 2 (some .int) 1 := ⟨wdK_J13_bitCount_95d88, wdZ_RJ13, by decide +kernel⟩
theorem dX3_firstOf_0 : decode cX3_firstOf 0 = .ok (.iload_n 3, 1) := by decide +kernel
theorem dX3_firstOf_1 : decode cX3_firstOf 1 = .ok (.istore 4, 2) := by decide +kernel
theorem dX3_firstOf_3 : decode cX3_firstOf 3 = .ok (.iload 4, 2) := by decide +kernel
theorem dX3_firstOf_5 : decode cX3_firstOf 5 = .ok (.aload_n 0, 1) := by decide +kernel
theorem dX3_firstOf_6 : decode cX3_firstOf 6 = .ok (.getfield 61, 3) := by decide +kernel
theorem dX3_firstOf_9 : decode cX3_firstOf 9 = .ok (.if_icmp .ge 28, 3) := by decide +kernel
theorem dX3_firstOf_12 : decode cX3_firstOf 12 = .ok (.lload_n 1, 1) := by decide +kernel
theorem dX3_firstOf_13 : decode cX3_firstOf 13 = .ok (.aload_n 0, 1) := by decide +kernel
theorem dX3_firstOf_14 : decode cX3_firstOf 14 = .ok (.getfield 27, 3) := by decide +kernel
theorem dX3_firstOf_17 : decode cX3_firstOf 17 = .ok (.iload 4, 2) := by decide +kernel
theorem dX3_firstOf_19 : decode cX3_firstOf 19 = .ok (.iaload, 1) := by decide +kernel
theorem dX3_firstOf_20 : decode cX3_firstOf 20 = .ok (.lushr, 1) := by decide +kernel
theorem dX3_firstOf_21 : decode cX3_firstOf 21 = .ok (.lconst 1, 1) := by decide +kernel
theorem dX3_firstOf_22 : decode cX3_firstOf 22 = .ok (.land, 1) := by decide +kernel
theorem dX3_firstOf_23 : decode cX3_firstOf 23 = .ok (.lconst 0, 1) := by decide +kernel
theorem dX3_firstOf_24 : decode cX3_firstOf 24 = .ok (.lcmp, 1) := by decide +kernel
theorem dX3_firstOf_25 : decode cX3_firstOf 25 = .ok (.ifCond .eq 6, 3) := by decide +kernel
theorem dX3_firstOf_28 : decode cX3_firstOf 28 = .ok (.iload 4, 2) := by decide +kernel
theorem dX3_firstOf_30 : decode cX3_firstOf 30 = .ok (.ireturn, 1) := by decide +kernel
theorem dX3_firstOf_31 : decode cX3_firstOf 31 = .ok (.iinc 4 1, 3) := by decide +kernel
theorem dX3_firstOf_34 : decode cX3_firstOf 34 = .ok (.goto (-31), 3) := by decide +kernel
theorem dX3_firstOf_37 : decode cX3_firstOf 37 = .ok (.aload_n 0, 1) := by decide +kernel
theorem dX3_firstOf_38 : decode cX3_firstOf 38 = .ok (.getfield 61, 3) := by decide +kernel
theorem dX3_firstOf_41 : decode cX3_firstOf 41 = .ok (.ireturn, 1) := by decide +kernel
abbrev rm_f_X3_firstOf : Room := { frames := 0, cells := 0, slots := 0, locals := 0 }
def f_X3_firstOf_L3 (o0 : Nat) (K4 : (St → Option (Int × St))) (y1 : Int64) : Nat → Int → St → Option (Int × St)
  | 0, _, _ => none
  | n9 + 1, x2, t3 =>
    lt1 (t3.1 (305 + o0) 8) fun v5 =>
    cmpI x2 v5 (if x2 < v5 then (ixI x2 64 (lt1 (t3.1 (395 + 10 * o0) x2.toNat) fun v6 =>
    (if ((ushrL y1 v6) &&& (1 : Int64)) = (0 : Int64) then (f_X3_firstOf_L3 o0 K4 y1 n9 (x2 + 1) t3)
    else (some (x2, t3)))))
    else (K4 t3))
def f_X3_firstOf (N : Nat) (o0 : Nat) (a0 : Int64) (a1 : Int) (t : St) : Option (Int × St) :=
    f_X3_firstOf_L3 o0 (fun (t7 : St) => lt1 (t7.1 (305 + o0) 8) fun v8 =>
    some (v8, t7)) a0 N a1 t
set_option maxHeartbeats 4000000 in
set_option maxRecDepth 100000 in
theorem t_f_X3_firstOf_L3 {p : Program} {l : Launch} {e : Env} {s : State} {m : MethodId} {args : Array Value} {below : List Frame} {meth : Method} {c : Code} {E : cE} {A : Nat → Prop} {r : Nat → Nat} {mc ms : Nat} {z : Int × St} {o0 : Nat} (ho0 : o0 < 2) {K4 : (St → Option (Int × St))} {y1 : Int64} (X : gX p s m meth c cX3_firstOf 5 (some .int) yX3_firstOf args E A) (hK4 : ∀ (t9 : St), K4 t9 = some z → gP p l e rm_f_X3_firstOf s m args below meth c E A 5 (MQ below ((gqI E (gW E r shH) z) A) args s mc ms A) (gW E r shH) 37 [(0, .ref (r (305 + o0)))] [] t9) : ∀ (n9 : Nat) (x2 : Int) (t3 : St), f_X3_firstOf_L3 o0 K4 y1 n9 x2 t3 = some z → gP p l e rm_f_X3_firstOf s m args below meth c E A 5 (MQ below ((gqI E (gW E r shH) z) A) args s mc ms A) (gW E r shH) 3 [(0, .ref (r (305 + o0))), (1, .long y1), (4, iv x2)] [] t3 := by
  intro n9
  induction n9 with
  | zero => intro x2 t3 h; cases h
  | succ n9 ih =>
    intro x2 t3 h
    unfold f_X3_firstOf_L3 at h
    refine g_iload X dX3_firstOf_3 2 rfl ?_
    refine g_aload_n X dX3_firstOf_5 0 rfl ?_
    refine g_getI X (fH_X3_61_o (o := o0) ho0) rfl dX3_firstOf_6 h (fun v5 h => ?_)
    refine g_icmp_ge (tgt := 37) X dX3_firstOf_9 (by decide) h (fun h => ?_) (fun h => ?_)
    · exact g_sub (lv' := [(0, .ref (r (305 + o0)))]) [0] rfl (hK4 t3 h)
    · refine g_lload_n X dX3_firstOf_12 1 rfl ?_
      refine g_aload_n X dX3_firstOf_13 0 rfl ?_
      refine g_getR X (fH_X3_27_o (o := o0) ho0) rfl dX3_firstOf_14 ?_
      refine g_iload X dX3_firstOf_17 2 rfl ?_
      refine g_iald X (aF_5 (o := o0) ho0) dX3_firstOf_19 h (fun v6 h => ?_)
      refine g_lushr X dX3_firstOf_20 ?_
      refine g_lconst (v := 1) X dX3_firstOf_21 (by decide) ?_
      refine g_land X dX3_firstOf_22 ?_
      refine g_lconst (v := 0) X dX3_firstOf_23 (by decide) ?_
      refine g_lcmp_eq (tgt := 31) X dX3_firstOf_24 dX3_firstOf_25 (by decide) h (fun h => ?_) (fun h => ?_)
      · refine g_iinc (lv' := [(4, iv (x2 + 1)), (0, .ref (r (305 + o0))), (1, .long y1)]) X dX3_firstOf_31 (k := 2) rfl (by decide) rfl ?_
        refine g_goto (tgt := 3) X dX3_firstOf_34 (by decide) ?_
        exact g_sub (lv' := [(0, .ref (r (305 + o0))), (1, .long y1), (4, iv (x2 + 1))]) [1, 2, 0] rfl (ih (x2 + 1) t3 h)
      · refine g_iload X dX3_firstOf_28 2 rfl ?_
        exact g_iret X h dX3_firstOf_30
set_option maxHeartbeats 4000000 in
set_option maxRecDepth 100000 in
theorem b_f_X3_firstOf {p : Program} {l : Launch} {e : Env} {s : State} {m : MethodId} {args : Array Value} {below : List Frame} {meth : Method} {c : Code} {E : cE} {A : Nat → Prop} {r : Nat → Nat} {mc ms : Nat} {z : Int × St} {N : Nat} {o0 : Nat} (ho0 : o0 < 2) {a0 : Int64} {a1 : Int} {t : St} (X : gX p s m meth c cX3_firstOf 5 (some .int) yX3_firstOf args E A) (h : f_X3_firstOf N o0 a0 a1 t = some z) : gP p l e rm_f_X3_firstOf s m args below meth c E A 5 (MQ below ((gqI E (gW E r shH) z) A) args s mc ms A) (gW E r shH) 0 [(0, .ref (r (305 + o0))), (1, .long a0), (3, iv a1)] [] t := by
  unfold f_X3_firstOf at h
  refine g_iload_n X dX3_firstOf_0 2 rfl ?_
  refine g_istore (lv' := [(4, iv a1), (0, .ref (r (305 + o0))), (1, .long a0), (3, iv a1)]) X dX3_firstOf_1 (by decide) rfl ?_
  refine g_sub (lv' := [(0, .ref (r (305 + o0))), (1, .long a0), (4, iv a1)]) [1, 2, 0] rfl (t_f_X3_firstOf_L3 ho0 X (fun t7 h => ?_) N a1 t h)
  · refine g_aload_n X dX3_firstOf_37 0 rfl ?_
    refine g_getI X (fH_X3_61_o (o := o0) ho0) rfl dX3_firstOf_38 h (fun v8 h => ?_)
    exact g_iret X h dX3_firstOf_41
set_option maxHeartbeats 4000000 in
set_option maxRecDepth 100000 in
theorem cp_X3_firstOf (l : Launch) (E : cE) (r : Nat → Nat) (N : Nat) (o0 : Nat) (ho0 : o0 < 2) (a0 : Int64) (a1 : Int) (t : St) (z : Int × St) (h : f_X3_firstOf N o0 a0 a1 t = some z) : cM l E yX3_firstOf cX3_firstOf 5 (some .int) rm_f_X3_firstOf [.ref (r (305 + o0)), .long a0, iv a1] (gW E r shH t) (gqI E (gW E r shH) z) := by
  refine g_of (w := gW E r shH) (by decide) (Nat.le_of_ble_eq_true rfl) ?_
  intro p e s m below meth c A X
  exact g_sub (lv' := [(0, .ref (r (305 + o0))), (1, .long a0), (3, iv a1)]) [0, 1, 2] rfl (b_f_X3_firstOf ho0 X h)
theorem yy_X3_firstOf : cY yX3_firstOf cX3_firstOf 5 (some .int) 2 := ⟨wdK_X3_firstOf, wdZ_RX3, by decide +kernel⟩
theorem yi_X3_firstOf : cYi yX3_firstOf := ⟨wdN_X3_firstOf, wdS_X3_firstOf⟩
theorem dX3_whoIsAt_0 : decode cX3_whoIsAt 0 = .ok (.iload_n 1, 1) := by decide +kernel
theorem dX3_whoIsAt_1 : decode cX3_whoIsAt 1 = .ok (.ifCond .lt 29, 3) := by decide +kernel
theorem dX3_whoIsAt_4 : decode cX3_whoIsAt 4 = .ok (.iload_n 2, 1) := by decide +kernel
theorem dX3_whoIsAt_5 : decode cX3_whoIsAt 5 = .ok (.ifCond .lt 25, 3) := by decide +kernel
theorem dX3_whoIsAt_8 : decode cX3_whoIsAt 8 = .ok (.iload_n 1, 1) := by decide +kernel
theorem dX3_whoIsAt_9 : decode cX3_whoIsAt 9 = .ok (.sipush 252, 3) := by decide +kernel
theorem dX3_whoIsAt_12 : decode cX3_whoIsAt 12 = .ok (.if_icmp .gt 18, 3) := by decide +kernel
theorem dX3_whoIsAt_15 : decode cX3_whoIsAt 15 = .ok (.iload_n 2, 1) := by decide +kernel
theorem dX3_whoIsAt_16 : decode cX3_whoIsAt 16 = .ok (.sipush 252, 3) := by decide +kernel
theorem dX3_whoIsAt_19 : decode cX3_whoIsAt 19 = .ok (.if_icmp .gt 11, 3) := by decide +kernel
theorem dX3_whoIsAt_22 : decode cX3_whoIsAt 22 = .ok (.iload_n 1, 1) := by decide +kernel
theorem dX3_whoIsAt_23 : decode cX3_whoIsAt 23 = .ok (.iload_n 2, 1) := by decide +kernel
theorem dX3_whoIsAt_24 : decode cX3_whoIsAt 24 = .ok (.ior, 1) := by decide +kernel
theorem dX3_whoIsAt_25 : decode cX3_whoIsAt 25 = .ok (.iconst 3, 1) := by decide +kernel
theorem dX3_whoIsAt_26 : decode cX3_whoIsAt 26 = .ok (.iand, 1) := by decide +kernel
theorem dX3_whoIsAt_27 : decode cX3_whoIsAt 27 = .ok (.ifCond .eq 5, 3) := by decide +kernel
theorem dX3_whoIsAt_30 : decode cX3_whoIsAt 30 = .ok (.iconst (-1), 1) := by decide +kernel
theorem dX3_whoIsAt_31 : decode cX3_whoIsAt 31 = .ok (.ireturn, 1) := by decide +kernel
theorem dX3_whoIsAt_32 : decode cX3_whoIsAt 32 = .ok (.aload_n 0, 1) := by decide +kernel
theorem dX3_whoIsAt_33 : decode cX3_whoIsAt 33 = .ok (.getfield 34, 3) := by decide +kernel
theorem dX3_whoIsAt_36 : decode cX3_whoIsAt 36 = .ok (.iload_n 2, 1) := by decide +kernel
theorem dX3_whoIsAt_37 : decode cX3_whoIsAt 37 = .ok (.iconst 4, 1) := by decide +kernel
theorem dX3_whoIsAt_38 : decode cX3_whoIsAt 38 = .ok (.ishl, 1) := by decide +kernel
theorem dX3_whoIsAt_39 : decode cX3_whoIsAt 39 = .ok (.iload_n 1, 1) := by decide +kernel
theorem dX3_whoIsAt_40 : decode cX3_whoIsAt 40 = .ok (.iconst 2, 1) := by decide +kernel
theorem dX3_whoIsAt_41 : decode cX3_whoIsAt 41 = .ok (.ishr, 1) := by decide +kernel
theorem dX3_whoIsAt_42 : decode cX3_whoIsAt 42 = .ok (.iadd, 1) := by decide +kernel
theorem dX3_whoIsAt_43 : decode cX3_whoIsAt 43 = .ok (.baload, 1) := by decide +kernel
theorem dX3_whoIsAt_44 : decode cX3_whoIsAt 44 = .ok (.iconst 1, 1) := by decide +kernel
theorem dX3_whoIsAt_45 : decode cX3_whoIsAt 45 = .ok (.isub, 1) := by decide +kernel
theorem dX3_whoIsAt_46 : decode cX3_whoIsAt 46 = .ok (.ireturn, 1) := by decide +kernel
abbrev rm_f_X3_whoIsAt : Room := { frames := 0, cells := 0, slots := 0, locals := 0 }
def f_X3_whoIsAt (N : Nat) (o0 : Nat) (a0 : Int) (a1 : Int) (t : St) : Option (Int × St) :=
    cmpI a0 0 (if a0 < 0 then (some ((-1), t))
    else (cmpI a1 0 (if a1 < 0 then (some ((-1), t))
    else (cmpI a0 252 (if 252 < a0 then (some ((-1), t))
    else (cmpI a1 252 (if 252 < a1 then (some ((-1), t))
    else (cmpI ((iorZ a0 a1) % 4) 0 (if ((iorZ a0 a1) % 4) = 0 then (rnI a0 (
    ixI ((a1 * 16) + (a0 / 4)) 4096 (lt1 (t.1 (397 + 10 * o0) ((a1 * 16) + (a0 / 4)).toNat) fun v1 =>
    some (v1 - 1, t))))
    else (some ((-1), t)))))))))))
set_option maxHeartbeats 4000000 in
set_option maxRecDepth 100000 in
theorem b_f_X3_whoIsAt {p : Program} {l : Launch} {e : Env} {s : State} {m : MethodId} {args : Array Value} {below : List Frame} {meth : Method} {c : Code} {E : cE} {A : Nat → Prop} {r : Nat → Nat} {mc ms : Nat} {z : Int × St} {N : Nat} {o0 : Nat} (ho0 : o0 < 2) {a0 : Int} {a1 : Int} {t : St} (X : gX p s m meth c cX3_whoIsAt 3 (some .int) yX3_whoIsAt args E A) (h : f_X3_whoIsAt N o0 a0 a1 t = some z) : gP p l e rm_f_X3_whoIsAt s m args below meth c E A 3 (MQ below ((gqI E (gW E r shH) z) A) args s mc ms A) (gW E r shH) 0 [(0, .ref (r (305 + o0))), (1, iv a0), (2, iv a1)] [] t := by
  unfold f_X3_whoIsAt at h
  refine g_iload_n X dX3_whoIsAt_0 1 rfl ?_
  refine g_if_lt (tgt := 30) X dX3_whoIsAt_1 (by decide) h (fun h => ?_) (fun h => ?_)
  · refine g_iconst X dX3_whoIsAt_30 ?_
    exact g_iret X h dX3_whoIsAt_31
  · refine g_iload_n X dX3_whoIsAt_4 2 rfl ?_
    refine g_if_lt (tgt := 30) X dX3_whoIsAt_5 (by decide) h (fun h => ?_) (fun h => ?_)
    · refine g_iconst X dX3_whoIsAt_30 ?_
      exact g_iret X h dX3_whoIsAt_31
    · refine g_iload_n X dX3_whoIsAt_8 1 rfl ?_
      refine g_sipush X dX3_whoIsAt_9 (by decide) ?_
      refine g_icmp_gt (tgt := 30) X dX3_whoIsAt_12 (by decide) h (fun h => ?_) (fun h => ?_)
      · refine g_iconst X dX3_whoIsAt_30 ?_
        exact g_iret X h dX3_whoIsAt_31
      · refine g_iload_n X dX3_whoIsAt_15 2 rfl ?_
        refine g_sipush X dX3_whoIsAt_16 (by decide) ?_
        refine g_icmp_gt (tgt := 30) X dX3_whoIsAt_19 (by decide) h (fun h => ?_) (fun h => ?_)
        · refine g_iconst X dX3_whoIsAt_30 ?_
          exact g_iret X h dX3_whoIsAt_31
        · refine g_iload_n X dX3_whoIsAt_22 1 rfl ?_
          refine g_iload_n X dX3_whoIsAt_23 2 rfl ?_
          refine g_ior X dX3_whoIsAt_24 ?_
          refine g_iconst X dX3_whoIsAt_25 ?_
          refine g_mask X 2 (by decide) (M := 4) (by decide) (by decide) dX3_whoIsAt_26 ?_
          refine g_if_eq (tgt := 32) X dX3_whoIsAt_27 (by decide) h (fun h => ?_) (fun h => ?_)
          · refine g_aload_n X dX3_whoIsAt_32 0 rfl ?_
            refine g_getR X (fH_X3_34_o (o := o0) ho0) rfl dX3_whoIsAt_33 ?_
            refine g_iload_n X dX3_whoIsAt_36 2 rfl ?_
            refine g_iconst X dX3_whoIsAt_37 ?_
            refine g_shl X 4 (by decide) (M := 16) (by decide) (by decide) dX3_whoIsAt_38 ?_
            refine g_iload_n X dX3_whoIsAt_39 1 rfl ?_
            refine g_iconst X dX3_whoIsAt_40 ?_
            refine g_shr X 2 (by decide) (M := 4) (by decide) (by decide) dX3_whoIsAt_41 h (fun h => ?_)
            refine g_iadd X dX3_whoIsAt_42 ?_
            refine g_bald X (aF_7 (o := o0) ho0) dX3_whoIsAt_43 h (fun v1 h => ?_)
            refine g_iconst X dX3_whoIsAt_44 ?_
            refine g_isub X dX3_whoIsAt_45 ?_
            exact g_iret X h dX3_whoIsAt_46
          · refine g_iconst X dX3_whoIsAt_30 ?_
            exact g_iret X h dX3_whoIsAt_31
set_option maxHeartbeats 4000000 in
set_option maxRecDepth 100000 in
theorem cp_X3_whoIsAt (l : Launch) (E : cE) (r : Nat → Nat) (N : Nat) (o0 : Nat) (ho0 : o0 < 2) (a0 : Int) (a1 : Int) (t : St) (z : Int × St) (h : f_X3_whoIsAt N o0 a0 a1 t = some z) : cM l E yX3_whoIsAt cX3_whoIsAt 3 (some .int) rm_f_X3_whoIsAt [.ref (r (305 + o0)), iv a0, iv a1] (gW E r shH t) (gqI E (gW E r shH) z) := by
  refine g_of (w := gW E r shH) (by decide) (Nat.le_of_ble_eq_true rfl) ?_
  intro p e s m below meth c A X
  exact g_sub (lv' := [(0, .ref (r (305 + o0))), (1, iv a0), (2, iv a1)]) [0, 1, 2] rfl (b_f_X3_whoIsAt ho0 X h)
theorem yy_X3_whoIsAt : cY yX3_whoIsAt cX3_whoIsAt 3 (some .int) 2 := ⟨wdK_X3_whoIsAt, wdZ_RX3, by decide +kernel⟩
theorem yi_X3_whoIsAt : cYi yX3_whoIsAt := ⟨wdN_X3_whoIsAt, wdS_X3_whoIsAt⟩
theorem dX2_membersOf_0 : decode cX2_membersOf 0 = .ok (.iload_n 3, 1) := by decide +kernel
theorem dX2_membersOf_1 : decode cX2_membersOf 1 = .ok (.iconst 3, 1) := by decide +kernel
theorem dX2_membersOf_2 : decode cX2_membersOf 2 = .ok (.iand, 1) := by decide +kernel
theorem dX2_membersOf_3 : decode cX2_membersOf 3 = .ok (.istore 7, 2) := by decide +kernel
theorem dX2_membersOf_5 : decode cX2_membersOf 5 = .ok (.iload_n 2, 1) := by decide +kernel
theorem dX2_membersOf_6 : decode cX2_membersOf 6 = .ok (.bipush 8, 2) := by decide +kernel
theorem dX2_membersOf_8 : decode cX2_membersOf 8 = .ok (.imul, 1) := by decide +kernel
theorem dX2_membersOf_9 : decode cX2_membersOf 9 = .ok (.iconst 4, 1) := by decide +kernel
theorem dX2_membersOf_10 : decode cX2_membersOf 10 = .ok (.imul, 1) := by decide +kernel
theorem dX2_membersOf_11 : decode cX2_membersOf 11 = .ok (.istore 8, 2) := by decide +kernel
theorem dX2_membersOf_13 : decode cX2_membersOf 13 = .ok (.aload_n 1, 1) := by decide +kernel
theorem dX2_membersOf_14 : decode cX2_membersOf 14 = .ok (.getfield 33, 3) := by decide +kernel
theorem dX2_membersOf_17 : decode cX2_membersOf 17 = .ok (.iload 4, 2) := by decide +kernel
theorem dX2_membersOf_19 : decode cX2_membersOf 19 = .ok (.iaload, 1) := by decide +kernel
theorem dX2_membersOf_20 : decode cX2_membersOf 20 = .ok (.aload_n 0, 1) := by decide +kernel
theorem dX2_membersOf_21 : decode cX2_membersOf 21 = .ok (.getfield 29, 3) := by decide +kernel
theorem dX2_membersOf_24 : decode cX2_membersOf 24 = .ok (.getfield 38, 3) := by decide +kernel
theorem dX2_membersOf_27 : decode cX2_membersOf 27 = .ok (.iload 8, 2) := by decide +kernel
theorem dX2_membersOf_29 : decode cX2_membersOf 29 = .ok (.iload_n 3, 1) := by decide +kernel
theorem dX2_membersOf_30 : decode cX2_membersOf 30 = .ok (.iadd, 1) := by decide +kernel
theorem dX2_membersOf_31 : decode cX2_membersOf 31 = .ok (.iaload, 1) := by decide +kernel
theorem dX2_membersOf_32 : decode cX2_membersOf 32 = .ok (.isub, 1) := by decide +kernel
theorem dX2_membersOf_33 : decode cX2_membersOf 33 = .ok (.istore 9, 2) := by decide +kernel
theorem dX2_membersOf_35 : decode cX2_membersOf 35 = .ok (.aload_n 1, 1) := by decide +kernel
theorem dX2_membersOf_36 : decode cX2_membersOf 36 = .ok (.getfield 43, 3) := by decide +kernel
theorem dX2_membersOf_39 : decode cX2_membersOf 39 = .ok (.iload 4, 2) := by decide +kernel
theorem dX2_membersOf_41 : decode cX2_membersOf 41 = .ok (.iaload, 1) := by decide +kernel
theorem dX2_membersOf_42 : decode cX2_membersOf 42 = .ok (.aload_n 0, 1) := by decide +kernel
theorem dX2_membersOf_43 : decode cX2_membersOf 43 = .ok (.getfield 29, 3) := by decide +kernel
theorem dX2_membersOf_46 : decode cX2_membersOf 46 = .ok (.getfield 46, 3) := by decide +kernel
theorem dX2_membersOf_49 : decode cX2_membersOf 49 = .ok (.iload 8, 2) := by decide +kernel
theorem dX2_membersOf_51 : decode cX2_membersOf 51 = .ok (.iload_n 3, 1) := by decide +kernel
theorem dX2_membersOf_52 : decode cX2_membersOf 52 = .ok (.iadd, 1) := by decide +kernel
theorem dX2_membersOf_53 : decode cX2_membersOf 53 = .ok (.iaload, 1) := by decide +kernel
theorem dX2_membersOf_54 : decode cX2_membersOf 54 = .ok (.isub, 1) := by decide +kernel
theorem dX2_membersOf_55 : decode cX2_membersOf 55 = .ok (.istore 10, 2) := by decide +kernel
theorem dX2_membersOf_57 : decode cX2_membersOf 57 = .ok (.lconst 0, 1) := by decide +kernel
theorem dX2_membersOf_58 : decode cX2_membersOf 58 = .ok (.lstore 11, 2) := by decide +kernel
theorem dX2_membersOf_60 : decode cX2_membersOf 60 = .ok (.iconst 0, 1) := by decide +kernel
theorem dX2_membersOf_61 : decode cX2_membersOf 61 = .ok (.istore 13, 2) := by decide +kernel
theorem dX2_membersOf_63 : decode cX2_membersOf 63 = .ok (.iload 13, 2) := by decide +kernel
theorem dX2_membersOf_65 : decode cX2_membersOf 65 = .ok (.aload_n 0, 1) := by decide +kernel
theorem dX2_membersOf_66 : decode cX2_membersOf 66 = .ok (.getfield 29, 3) := by decide +kernel
theorem dX2_membersOf_69 : decode cX2_membersOf 69 = .ok (.getfield 49, 3) := by decide +kernel
theorem dX2_membersOf_72 : decode cX2_membersOf 72 = .ok (.iload_n 2, 1) := by decide +kernel
theorem dX2_membersOf_73 : decode cX2_membersOf 73 = .ok (.iaload, 1) := by decide +kernel
theorem dX2_membersOf_74 : decode cX2_membersOf 74 = .ok (.if_icmp .ge 151, 3) := by decide +kernel
theorem dX2_membersOf_77 : decode cX2_membersOf 77 = .ok (.iload 8, 2) := by decide +kernel
theorem dX2_membersOf_79 : decode cX2_membersOf 79 = .ok (.iconst 4, 1) := by decide +kernel
theorem dX2_membersOf_80 : decode cX2_membersOf 80 = .ok (.iload 13, 2) := by decide +kernel
theorem dX2_membersOf_82 : decode cX2_membersOf 82 = .ok (.imul, 1) := by decide +kernel
theorem dX2_membersOf_83 : decode cX2_membersOf 83 = .ok (.iadd, 1) := by decide +kernel
theorem dX2_membersOf_84 : decode cX2_membersOf 84 = .ok (.iload 7, 2) := by decide +kernel
theorem dX2_membersOf_86 : decode cX2_membersOf 86 = .ok (.iadd, 1) := by decide +kernel
theorem dX2_membersOf_87 : decode cX2_membersOf 87 = .ok (.istore 14, 2) := by decide +kernel
theorem dX2_membersOf_89 : decode cX2_membersOf 89 = .ok (.aload_n 1, 1) := by decide +kernel
theorem dX2_membersOf_90 : decode cX2_membersOf 90 = .ok (.iload 9, 2) := by decide +kernel
theorem dX2_membersOf_92 : decode cX2_membersOf 92 = .ok (.aload_n 0, 1) := by decide +kernel
theorem dX2_membersOf_93 : decode cX2_membersOf 93 = .ok (.getfield 29, 3) := by decide +kernel
theorem dX2_membersOf_96 : decode cX2_membersOf 96 = .ok (.getfield 38, 3) := by decide +kernel
theorem dX2_membersOf_99 : decode cX2_membersOf 99 = .ok (.iload 14, 2) := by decide +kernel
theorem dX2_membersOf_101 : decode cX2_membersOf 101 = .ok (.iaload, 1) := by decide +kernel
theorem dX2_membersOf_102 : decode cX2_membersOf 102 = .ok (.iadd, 1) := by decide +kernel
theorem dX2_membersOf_103 : decode cX2_membersOf 103 = .ok (.iload 10, 2) := by decide +kernel
theorem dX2_membersOf_105 : decode cX2_membersOf 105 = .ok (.aload_n 0, 1) := by decide +kernel
theorem dX2_membersOf_106 : decode cX2_membersOf 106 = .ok (.getfield 29, 3) := by decide +kernel
theorem dX2_membersOf_109 : decode cX2_membersOf 109 = .ok (.getfield 46, 3) := by decide +kernel
theorem dX2_membersOf_112 : decode cX2_membersOf 112 = .ok (.iload 14, 2) := by decide +kernel
theorem dX2_membersOf_114 : decode cX2_membersOf 114 = .ok (.iaload, 1) := by decide +kernel
theorem dX2_membersOf_115 : decode cX2_membersOf 115 = .ok (.iadd, 1) := by decide +kernel
theorem dX2_membersOf_116 : decode cX2_membersOf 116 = .ok (.invokevirtual 52, 3) := by decide +kernel
theorem dX2_membersOf_119 : decode cX2_membersOf 119 = .ok (.istore 15, 2) := by decide +kernel
theorem dX2_membersOf_121 : decode cX2_membersOf 121 = .ok (.iload 15, 2) := by decide +kernel
theorem dX2_membersOf_123 : decode cX2_membersOf 123 = .ok (.ifCond .lt 15, 3) := by decide +kernel
theorem dX2_membersOf_126 : decode cX2_membersOf 126 = .ok (.lload 5, 2) := by decide +kernel
theorem dX2_membersOf_128 : decode cX2_membersOf 128 = .ok (.iload 15, 2) := by decide +kernel
theorem dX2_membersOf_130 : decode cX2_membersOf 130 = .ok (.lushr, 1) := by decide +kernel
theorem dX2_membersOf_131 : decode cX2_membersOf 131 = .ok (.lconst 1, 1) := by decide +kernel
theorem dX2_membersOf_132 : decode cX2_membersOf 132 = .ok (.land, 1) := by decide +kernel
theorem dX2_membersOf_133 : decode cX2_membersOf 133 = .ok (.lconst 0, 1) := by decide +kernel
theorem dX2_membersOf_134 : decode cX2_membersOf 134 = .ok (.lcmp, 1) := by decide +kernel
theorem dX2_membersOf_135 : decode cX2_membersOf 135 = .ok (.ifCond .ne 5, 3) := by decide +kernel
theorem dX2_membersOf_138 : decode cX2_membersOf 138 = .ok (.lconst 0, 1) := by decide +kernel
theorem dX2_membersOf_139 : decode cX2_membersOf 139 = .ok (.lreturn, 1) := by decide +kernel
theorem dX2_membersOf_140 : decode cX2_membersOf 140 = .ok (.aload_n 0, 1) := by decide +kernel
theorem dX2_membersOf_141 : decode cX2_membersOf 141 = .ok (.getfield 29, 3) := by decide +kernel
theorem dX2_membersOf_144 : decode cX2_membersOf 144 = .ok (.getfield 56, 3) := by decide +kernel
theorem dX2_membersOf_147 : decode cX2_membersOf 147 = .ok (.iload_n 2, 1) := by decide +kernel
theorem dX2_membersOf_148 : decode cX2_membersOf 148 = .ok (.bipush 8, 2) := by decide +kernel
theorem dX2_membersOf_150 : decode cX2_membersOf 150 = .ok (.imul, 1) := by decide +kernel
theorem dX2_membersOf_151 : decode cX2_membersOf 151 = .ok (.iload 13, 2) := by decide +kernel
theorem dX2_membersOf_153 : decode cX2_membersOf 153 = .ok (.iadd, 1) := by decide +kernel
theorem dX2_membersOf_154 : decode cX2_membersOf 154 = .ok (.iaload, 1) := by decide +kernel
theorem dX2_membersOf_155 : decode cX2_membersOf 155 = .ok (.istore 16, 2) := by decide +kernel
theorem dX2_membersOf_157 : decode cX2_membersOf 157 = .ok (.iload 16, 2) := by decide +kernel
theorem dX2_membersOf_159 : decode cX2_membersOf 159 = .ok (.bipush 7, 2) := by decide +kernel
theorem dX2_membersOf_161 : decode cX2_membersOf 161 = .ok (.iand, 1) := by decide +kernel
theorem dX2_membersOf_162 : decode cX2_membersOf 162 = .ok (.istore 17, 2) := by decide +kernel
theorem dX2_membersOf_164 : decode cX2_membersOf 164 = .ok (.iload 16, 2) := by decide +kernel
theorem dX2_membersOf_166 : decode cX2_membersOf 166 = .ok (.iconst 3, 1) := by decide +kernel
theorem dX2_membersOf_167 : decode cX2_membersOf 167 = .ok (.ishr, 1) := by decide +kernel
theorem dX2_membersOf_168 : decode cX2_membersOf 168 = .ok (.istore 18, 2) := by decide +kernel
theorem dX2_membersOf_170 : decode cX2_membersOf 170 = .ok (.iload 17, 2) := by decide +kernel
theorem dX2_membersOf_172 : decode cX2_membersOf 172 = .ok (.iconst 4, 1) := by decide +kernel
theorem dX2_membersOf_173 : decode cX2_membersOf 173 = .ok (.if_icmp .eq 20, 3) := by decide +kernel
theorem dX2_membersOf_176 : decode cX2_membersOf 176 = .ok (.iload 17, 2) := by decide +kernel
theorem dX2_membersOf_178 : decode cX2_membersOf 178 = .ok (.iload 7, 2) := by decide +kernel
theorem dX2_membersOf_180 : decode cX2_membersOf 180 = .ok (.iadd, 1) := by decide +kernel
theorem dX2_membersOf_181 : decode cX2_membersOf 181 = .ok (.iconst 3, 1) := by decide +kernel
theorem dX2_membersOf_182 : decode cX2_membersOf 182 = .ok (.iand, 1) := by decide +kernel
theorem dX2_membersOf_183 : decode cX2_membersOf 183 = .ok (.aload_n 1, 1) := by decide +kernel
theorem dX2_membersOf_184 : decode cX2_membersOf 184 = .ok (.getfield 59, 3) := by decide +kernel
theorem dX2_membersOf_187 : decode cX2_membersOf 187 = .ok (.iload 15, 2) := by decide +kernel
theorem dX2_membersOf_189 : decode cX2_membersOf 189 = .ok (.iaload, 1) := by decide +kernel
theorem dX2_membersOf_190 : decode cX2_membersOf 190 = .ok (.if_icmp .ne 18, 3) := by decide +kernel
theorem dX2_membersOf_193 : decode cX2_membersOf 193 = .ok (.iload 18, 2) := by decide +kernel
theorem dX2_membersOf_195 : decode cX2_membersOf 195 = .ok (.iconst 2, 1) := by decide +kernel
theorem dX2_membersOf_196 : decode cX2_membersOf 196 = .ok (.if_icmp .eq 14, 3) := by decide +kernel
theorem dX2_membersOf_199 : decode cX2_membersOf 199 = .ok (.iload 18, 2) := by decide +kernel
theorem dX2_membersOf_201 : decode cX2_membersOf 201 = .ok (.iload 15, 2) := by decide +kernel
theorem dX2_membersOf_203 : decode cX2_membersOf 203 = .ok (.iconst 1, 1) := by decide +kernel
theorem dX2_membersOf_204 : decode cX2_membersOf 204 = .ok (.iand, 1) := by decide +kernel
theorem dX2_membersOf_205 : decode cX2_membersOf 205 = .ok (.if_icmp .eq 5, 3) := by decide +kernel
theorem dX2_membersOf_208 : decode cX2_membersOf 208 = .ok (.lconst 0, 1) := by decide +kernel
theorem dX2_membersOf_209 : decode cX2_membersOf 209 = .ok (.lreturn, 1) := by decide +kernel
theorem dX2_membersOf_210 : decode cX2_membersOf 210 = .ok (.lload 11, 2) := by decide +kernel
theorem dX2_membersOf_212 : decode cX2_membersOf 212 = .ok (.lconst 1, 1) := by decide +kernel
theorem dX2_membersOf_213 : decode cX2_membersOf 213 = .ok (.iload 15, 2) := by decide +kernel
theorem dX2_membersOf_215 : decode cX2_membersOf 215 = .ok (.lshl, 1) := by decide +kernel
theorem dX2_membersOf_216 : decode cX2_membersOf 216 = .ok (.lor, 1) := by decide +kernel
theorem dX2_membersOf_217 : decode cX2_membersOf 217 = .ok (.lstore 11, 2) := by decide +kernel
theorem dX2_membersOf_219 : decode cX2_membersOf 219 = .ok (.iinc 13 1, 3) := by decide +kernel
theorem dX2_membersOf_222 : decode cX2_membersOf 222 = .ok (.goto (-159), 3) := by decide +kernel
theorem dX2_membersOf_225 : decode cX2_membersOf 225 = .ok (.lload 11, 2) := by decide +kernel
theorem dX2_membersOf_227 : decode cX2_membersOf 227 = .ok (.lreturn, 1) := by decide +kernel
abbrev rm_f_X2_membersOf : Room := { frames := 1, cells := 0, slots := 0, locals := 22 }
def f_X2_membersOf_L63 (N : Nat) (o1 : Nat) (K14 : (Int64 → St → Option (Int64 × St))) (y5 : Int) (y6 : Int64) (y7 : Int) (y8 : Int) (y9 : Int) (y10 : Int) : Nat → Int64 → Int → St → Option (Int64 × St)
  | 0, _, _, _ => none
  | n9 + 1, x11, x12, t13 =>
    ixI y5 40 (lt1 (t13.1 350 y5.toNat) fun v15 =>
    cmpI x12 v15 (if x12 < v15 then (ixI ((y8 + (4 * x12)) + y7) 1280 (lt1 (t13.1 351 ((y8 + (4 * x12)) + y7).toNat) fun v16 =>
    ixI ((y8 + (4 * x12)) + y7) 1280 (lt1 (t13.1 352 ((y8 + (4 * x12)) + y7).toNat) fun v17 =>
    bdI (f_X3_whoIsAt N o1 (y9 + v16) (y10 + v17) t13) fun v19 t18 =>
    cmpI v19 0 (if v19 < 0 then (some ((0 : Int64), t18))
    else ((if ((ushrL y6 v19) &&& (1 : Int64)) = (0 : Int64) then (some ((0 : Int64), t18))
    else (ixI ((y5 * 8) + x12) 320 (lt1 (t18.1 353 ((y5 * 8) + x12).toNat) fun v20 =>
    rnI v20 (
    jn1 (fun (t21 : St) => jn1 (fun (t23 : St) => f_X2_membersOf_L63 N o1 K14 y5 y6 y7 y8 y9 y10 n9 (x11 ||| (shlL (1 : Int64) v19)) (x12 + 1) t23) fun J24 =>
    cmpI (v20 / 8) 2 (if (v20 / 8) = 2 then (J24 t21)
    else (cmpI (v20 / 8) (v19 % 2) (if (v20 / 8) = (v19 % 2) then (J24 t21)
    else (some ((0 : Int64), t21)))))) fun J22 =>
    cmpI (v20 % 8) 4 (if (v20 % 8) = 4 then (J22 t18)
    else (ixI v19 64 (lt1 (t18.1 (392 + 10 * o1) v19.toNat) fun v25 =>
    cmpI (((v20 % 8) + y7) % 4) v25 (if (((v20 % 8) + y7) % 4) = v25 then (J22 t18)
    else (some ((0 : Int64), t18)))))))))))))))
    else (K14 x11 t13)))
def f_X2_membersOf (N : Nat) (o1 : Nat) (a1 : Int) (a2 : Int) (a3 : Int) (a4 : Int64) (t : St) : Option (Int64 × St) :=
    ixI a3 64 (lt1 (t.1 (390 + 10 * o1) a3.toNat) fun v1 =>
    ixI (((a1 * 8) * 4) + a2) 1280 (lt1 (t.1 351 (((a1 * 8) * 4) + a2).toNat) fun v2 =>
    ixI a3 64 (lt1 (t.1 (391 + 10 * o1) a3.toNat) fun v3 =>
    ixI (((a1 * 8) * 4) + a2) 1280 (lt1 (t.1 352 (((a1 * 8) * 4) + a2).toNat) fun v4 =>
    f_X2_membersOf_L63 N o1 (fun (k26 : Int64) (t27 : St) => some (k26, t27)) a1 a4 (a2 % 4) ((a1 * 8) * 4) (v1 - v2) (v3 - v4) N (0 : Int64) 0 t))))
set_option maxHeartbeats 4000000 in
set_option maxRecDepth 100000 in
theorem t_f_X2_membersOf_L63 {p : Program} {l : Launch} {e : Env} {s : State} {m : MethodId} {args : Array Value} {below : List Frame} {meth : Method} {c : Code} {E : cE} {A : Nat → Prop} {r : Nat → Nat} {mc ms : Nat} {z : Int64 × St} {o1 : Nat} (ho1 : o1 < 2) {N : Nat} {K14 : (Int64 → St → Option (Int64 × St))} {y5 : Int} {y6 : Int64} {y7 : Int} {y8 : Int} {y9 : Int} {y10 : Int} (X : gX p s m meth c cX2_membersOf 19 (some .long) yX2_membersOf args E A) (hK14 : ∀ (q11 : Int64) (t9 : St), K14 q11 t9 = some z → gP p l e rm_f_X2_membersOf s m args below meth c E A 19 (MQ below ((gqL E (gW E r shH) z) A) args s mc ms A) (gW E r shH) 225 [(11, .long q11)] [] t9) : ∀ (n9 : Nat) (x11 : Int64) (x12 : Int) (t13 : St), f_X2_membersOf_L63 N o1 K14 y5 y6 y7 y8 y9 y10 n9 x11 x12 t13 = some z → gP p l e rm_f_X2_membersOf s m args below meth c E A 19 (MQ below ((gqL E (gW E r shH) z) A) args s mc ms A) (gW E r shH) 63 [(0, .ref (r 311)), (1, .ref (r (305 + o1))), (2, iv y5), (5, .long y6), (7, iv y7), (8, iv y8), (9, iv y9), (10, iv y10), (11, .long x11), (13, iv x12)] [] t13 := by
  intro n9
  induction n9 with
  | zero => intro x11 x12 t13 h; cases h
  | succ n9 ih =>
    intro x11 x12 t13 h
    unfold f_X2_membersOf_L63 at h
    refine g_iload X dX2_membersOf_63 9 rfl ?_
    refine g_aload_n X dX2_membersOf_65 0 rfl ?_
    refine g_getR X fH_X2_29_311 rfl dX2_membersOf_66 ?_
    refine g_getR X fH_X2_49_302 rfl dX2_membersOf_69 ?_
    refine g_iload_n X dX2_membersOf_72 2 rfl ?_
    refine g_iald X aH_350 dX2_membersOf_73 h (fun v15 h => ?_)
    refine g_icmp_ge (tgt := 225) X dX2_membersOf_74 (by decide) h (fun h => ?_) (fun h => ?_)
    · exact g_sub (lv' := [(11, .long x11)]) [8] rfl (hK14 x11 t13 h)
    · refine g_iload X dX2_membersOf_77 5 rfl ?_
      refine g_iconst X dX2_membersOf_79 ?_
      refine g_iload X dX2_membersOf_80 9 rfl ?_
      refine g_imul X dX2_membersOf_82 ?_
      refine g_iadd X dX2_membersOf_83 ?_
      refine g_iload X dX2_membersOf_84 4 rfl ?_
      refine g_iadd X dX2_membersOf_86 ?_
      refine g_istore (lv' := [(14, iv ((y8 + (4 * x12)) + y7)), (0, .ref (r 311)), (1, .ref (r (305 + o1))), (2, iv y5), (5, .long y6), (7, iv y7), (8, iv y8), (9, iv y9), (10, iv y10), (11, .long x11), (13, iv x12)]) X dX2_membersOf_87 (by decide) rfl ?_
      refine g_aload_n X dX2_membersOf_89 2 rfl ?_
      refine g_iload X dX2_membersOf_90 7 rfl ?_
      refine g_aload_n X dX2_membersOf_92 1 rfl ?_
      refine g_getR X fH_X2_29_311 rfl dX2_membersOf_93 ?_
      refine g_getR X fH_X2_38_302 rfl dX2_membersOf_96 ?_
      refine g_iload X dX2_membersOf_99 0 rfl ?_
      refine g_iald X aH_351 dX2_membersOf_101 h (fun v16 h => ?_)
      refine g_iadd X dX2_membersOf_102 ?_
      refine g_iload X dX2_membersOf_103 8 rfl ?_
      refine g_aload_n X dX2_membersOf_105 1 rfl ?_
      refine g_getR X fH_X2_29_311 rfl dX2_membersOf_106 ?_
      refine g_getR X fH_X2_46_302 rfl dX2_membersOf_109 ?_
      refine g_iload X dX2_membersOf_112 0 rfl ?_
      refine g_iald X aH_352 dX2_membersOf_114 h (fun v17 h => ?_)
      refine g_iadd X dX2_membersOf_115 ?_
      refine g_callOI (rest := []) X (fun u9 h9 => cp_X3_whoIsAt l E r N o1 ho1 (y9 + v16) (y10 + v17) t13 u9 h9) yy_X3_whoIsAt yi_X3_whoIsAt wdM_RX2_52 (oX3 (o := o1) ho1) rfl rfl rfl (Nat.le_of_ble_eq_true rfl) dX2_membersOf_116 ⟨by decide, by decide⟩ ⟨rfl, rfl⟩ h (fun v19 t18 h => ?_)
      refine g_istore (lv' := [(15, iv v19), (14, iv ((y8 + (4 * x12)) + y7)), (0, .ref (r 311)), (1, .ref (r (305 + o1))), (2, iv y5), (5, .long y6), (7, iv y7), (8, iv y8), (9, iv y9), (10, iv y10), (11, .long x11), (13, iv x12)]) X dX2_membersOf_119 (by decide) rfl ?_
      refine g_iload X dX2_membersOf_121 0 rfl ?_
      refine g_if_lt (tgt := 138) X dX2_membersOf_123 (by decide) h (fun h => ?_) (fun h => ?_)
      · refine g_lconst (v := 0) X dX2_membersOf_138 (by decide) ?_
        exact g_lret X h dX2_membersOf_139
      · refine g_lload X dX2_membersOf_126 5 rfl ?_
        refine g_iload X dX2_membersOf_128 0 rfl ?_
        refine g_lushr X dX2_membersOf_130 ?_
        refine g_lconst (v := 1) X dX2_membersOf_131 (by decide) ?_
        refine g_land X dX2_membersOf_132 ?_
        refine g_lconst (v := 0) X dX2_membersOf_133 (by decide) ?_
        refine g_lcmp_ne (tgt := 140) X dX2_membersOf_134 dX2_membersOf_135 (by decide) h (fun h => ?_) (fun h => ?_)
        · refine g_aload_n X dX2_membersOf_140 2 rfl ?_
          refine g_getR X fH_X2_29_311 rfl dX2_membersOf_141 ?_
          refine g_getR X fH_X2_56_302 rfl dX2_membersOf_144 ?_
          refine g_iload_n X dX2_membersOf_147 4 rfl ?_
          refine g_bipush X dX2_membersOf_148 (by decide) ?_
          refine g_imul X dX2_membersOf_150 ?_
          refine g_iload X dX2_membersOf_151 11 rfl ?_
          refine g_iadd X dX2_membersOf_153 ?_
          refine g_iald X aH_353 dX2_membersOf_154 h (fun v20 h => ?_)
          refine g_istore (lv' := [(16, iv v20), (15, iv v19), (14, iv ((y8 + (4 * x12)) + y7)), (0, .ref (r 311)), (1, .ref (r (305 + o1))), (2, iv y5), (5, .long y6), (7, iv y7), (8, iv y8), (9, iv y9), (10, iv y10), (11, .long x11), (13, iv x12)]) X dX2_membersOf_155 (by decide) rfl ?_
          refine g_iload X dX2_membersOf_157 0 rfl ?_
          refine g_bipush X dX2_membersOf_159 (by decide) ?_
          refine g_mask X 3 (by decide) (M := 8) (by decide) (by decide) dX2_membersOf_161 ?_
          refine g_istore (lv' := [(17, iv (v20 % 8)), (16, iv v20), (15, iv v19), (14, iv ((y8 + (4 * x12)) + y7)), (0, .ref (r 311)), (1, .ref (r (305 + o1))), (2, iv y5), (5, .long y6), (7, iv y7), (8, iv y8), (9, iv y9), (10, iv y10), (11, .long x11), (13, iv x12)]) X dX2_membersOf_162 (by decide) rfl ?_
          refine g_iload X dX2_membersOf_164 1 rfl ?_
          refine g_iconst X dX2_membersOf_166 ?_
          refine g_shr X 3 (by decide) (M := 8) (by decide) (by decide) dX2_membersOf_167 h (fun h => ?_)
          refine g_istore (lv' := [(18, iv (v20 / 8)), (17, iv (v20 % 8)), (16, iv v20), (15, iv v19), (14, iv ((y8 + (4 * x12)) + y7)), (0, .ref (r 311)), (1, .ref (r (305 + o1))), (2, iv y5), (5, .long y6), (7, iv y7), (8, iv y8), (9, iv y9), (10, iv y10), (11, .long x11), (13, iv x12)]) X dX2_membersOf_168 (by decide) rfl ?_
          refine g_iload X dX2_membersOf_170 1 rfl ?_
          refine g_iconst X dX2_membersOf_172 ?_
          refine g_join (J := fun jj => ∀ (t21 : St), jj  t21 = some z → gP p l e rm_f_X2_membersOf s m args below meth c E A 19 (MQ below ((gqL E (gW E r shH) z) A) args s mc ms A) (gW E r shH) 193 [(0, .ref (r 311)), (1, .ref (r (305 + o1))), (2, iv y5), (5, .long y6), (7, iv y7), (8, iv y8), (9, iv y9), (10, iv y10), (11, .long x11), (13, iv x12), (15, iv v19), (18, iv (v20 / 8))] [] t21) h (fun  t21 h => ?_) (fun J22 hJ22 h => ?_)
          · refine g_iload X dX2_membersOf_193 11 rfl ?_
            refine g_iconst X dX2_membersOf_195 ?_
            refine g_join (J := fun jj => ∀ (t23 : St), jj  t23 = some z → gP p l e rm_f_X2_membersOf s m args below meth c E A 19 (MQ below ((gqL E (gW E r shH) z) A) args s mc ms A) (gW E r shH) 210 [(0, .ref (r 311)), (1, .ref (r (305 + o1))), (2, iv y5), (5, .long y6), (7, iv y7), (8, iv y8), (9, iv y9), (10, iv y10), (11, .long x11), (13, iv x12), (15, iv v19)] [] t23) h (fun  t23 h => ?_) (fun J24 hJ24 h => ?_)
            · refine g_lload X dX2_membersOf_210 8 rfl ?_
              refine g_lconst (v := 1) X dX2_membersOf_212 (by decide) ?_
              refine g_iload X dX2_membersOf_213 10 rfl ?_
              refine g_lshl X dX2_membersOf_215 ?_
              refine g_lor X dX2_membersOf_216 ?_
              refine g_lstore (lv' := [(11, .long (x11 ||| (shlL (1 : Int64) v19))), (0, .ref (r 311)), (1, .ref (r (305 + o1))), (2, iv y5), (5, .long y6), (7, iv y7), (8, iv y8), (9, iv y9), (10, iv y10), (13, iv x12), (15, iv v19)]) X dX2_membersOf_217 (by decide) rfl ?_
              refine g_iinc (lv' := [(13, iv (x12 + 1)), (11, .long (x11 ||| (shlL (1 : Int64) v19))), (0, .ref (r 311)), (1, .ref (r (305 + o1))), (2, iv y5), (5, .long y6), (7, iv y7), (8, iv y8), (9, iv y9), (10, iv y10), (15, iv v19)]) X dX2_membersOf_219 (k := 9) rfl (by decide) rfl ?_
              refine g_goto (tgt := 63) X dX2_membersOf_222 (by decide) ?_
              exact g_sub (lv' := [(0, .ref (r 311)), (1, .ref (r (305 + o1))), (2, iv y5), (5, .long y6), (7, iv y7), (8, iv y8), (9, iv y9), (10, iv y10), (11, .long (x11 ||| (shlL (1 : Int64) v19))), (13, iv (x12 + 1))]) [2, 3, 4, 5, 6, 7, 8, 9, 1, 0] rfl (ih (x11 ||| (shlL (1 : Int64) v19)) (x12 + 1) t23 h)
            refine g_icmp_eq (tgt := 210) X dX2_membersOf_196 (by decide) h (fun h => ?_) (fun h => ?_)
            · exact g_sub (lv' := [(0, .ref (r 311)), (1, .ref (r (305 + o1))), (2, iv y5), (5, .long y6), (7, iv y7), (8, iv y8), (9, iv y9), (10, iv y10), (11, .long x11), (13, iv x12), (15, iv v19)]) [0, 1, 2, 3, 4, 5, 6, 7, 8, 9, 10] rfl (hJ24 t21 h)
            · refine g_iload X dX2_membersOf_199 11 rfl ?_
              refine g_iload X dX2_membersOf_201 10 rfl ?_
              refine g_iconst X dX2_membersOf_203 ?_
              refine g_mask X 1 (by decide) (M := 2) (by decide) (by decide) dX2_membersOf_204 ?_
              refine g_icmp_eq (tgt := 210) X dX2_membersOf_205 (by decide) h (fun h => ?_) (fun h => ?_)
              · exact g_sub (lv' := [(0, .ref (r 311)), (1, .ref (r (305 + o1))), (2, iv y5), (5, .long y6), (7, iv y7), (8, iv y8), (9, iv y9), (10, iv y10), (11, .long x11), (13, iv x12), (15, iv v19)]) [0, 1, 2, 3, 4, 5, 6, 7, 8, 9, 10] rfl (hJ24 t21 h)
              · refine g_lconst (v := 0) X dX2_membersOf_208 (by decide) ?_
                exact g_lret X h dX2_membersOf_209
          refine g_icmp_eq (tgt := 193) X dX2_membersOf_173 (by decide) h (fun h => ?_) (fun h => ?_)
          · exact g_sub (lv' := [(0, .ref (r 311)), (1, .ref (r (305 + o1))), (2, iv y5), (5, .long y6), (7, iv y7), (8, iv y8), (9, iv y9), (10, iv y10), (11, .long x11), (13, iv x12), (15, iv v19), (18, iv (v20 / 8))]) [5, 6, 7, 8, 9, 10, 11, 12, 13, 14, 3, 0] rfl (hJ22 t18 h)
          · refine g_iload X dX2_membersOf_176 1 rfl ?_
            refine g_iload X dX2_membersOf_178 9 rfl ?_
            refine g_iadd X dX2_membersOf_180 ?_
            refine g_iconst X dX2_membersOf_181 ?_
            refine g_mask X 2 (by decide) (M := 4) (by decide) (by decide) dX2_membersOf_182 ?_
            refine g_aload_n X dX2_membersOf_183 6 rfl ?_
            refine g_getR X (fH_X2_59_o (o := o1) ho1) rfl dX2_membersOf_184 ?_
            refine g_iload X dX2_membersOf_187 3 rfl ?_
            refine g_iald X (aF_2 (o := o1) ho1) dX2_membersOf_189 h (fun v25 h => ?_)
            refine g_icmp_ne (tgt := 208) X dX2_membersOf_190 (by decide) h (fun h => ?_) (fun h => ?_)
            · refine g_lconst (v := 0) X dX2_membersOf_208 (by decide) ?_
              exact g_lret X h dX2_membersOf_209
            · exact g_sub (lv' := [(0, .ref (r 311)), (1, .ref (r (305 + o1))), (2, iv y5), (5, .long y6), (7, iv y7), (8, iv y8), (9, iv y9), (10, iv y10), (11, .long x11), (13, iv x12), (15, iv v19), (18, iv (v20 / 8))]) [5, 6, 7, 8, 9, 10, 11, 12, 13, 14, 3, 0] rfl (hJ22 t18 h)
        · refine g_lconst (v := 0) X dX2_membersOf_138 (by decide) ?_
          exact g_lret X h dX2_membersOf_139
set_option maxHeartbeats 4000000 in
set_option maxRecDepth 100000 in
theorem b_f_X2_membersOf {p : Program} {l : Launch} {e : Env} {s : State} {m : MethodId} {args : Array Value} {below : List Frame} {meth : Method} {c : Code} {E : cE} {A : Nat → Prop} {r : Nat → Nat} {mc ms : Nat} {z : Int64 × St} {N : Nat} {o1 : Nat} (ho1 : o1 < 2) {a1 : Int} {a2 : Int} {a3 : Int} {a4 : Int64} {t : St} (X : gX p s m meth c cX2_membersOf 19 (some .long) yX2_membersOf args E A) (h : f_X2_membersOf N o1 a1 a2 a3 a4 t = some z) : gP p l e rm_f_X2_membersOf s m args below meth c E A 19 (MQ below ((gqL E (gW E r shH) z) A) args s mc ms A) (gW E r shH) 0 [(0, .ref (r 311)), (1, .ref (r (305 + o1))), (2, iv a1), (3, iv a2), (4, iv a3), (5, .long a4)] [] t := by
  unfold f_X2_membersOf at h
  refine g_iload_n X dX2_membersOf_0 3 rfl ?_
  refine g_iconst X dX2_membersOf_1 ?_
  refine g_mask X 2 (by decide) (M := 4) (by decide) (by decide) dX2_membersOf_2 ?_
  refine g_istore (lv' := [(7, iv (a2 % 4)), (0, .ref (r 311)), (1, .ref (r (305 + o1))), (2, iv a1), (3, iv a2), (4, iv a3), (5, .long a4)]) X dX2_membersOf_3 (by decide) rfl ?_
  refine g_iload_n X dX2_membersOf_5 3 rfl ?_
  refine g_bipush X dX2_membersOf_6 (by decide) ?_
  refine g_imul X dX2_membersOf_8 ?_
  refine g_iconst X dX2_membersOf_9 ?_
  refine g_imul X dX2_membersOf_10 ?_
  refine g_istore (lv' := [(8, iv ((a1 * 8) * 4)), (7, iv (a2 % 4)), (0, .ref (r 311)), (1, .ref (r (305 + o1))), (2, iv a1), (3, iv a2), (4, iv a3), (5, .long a4)]) X dX2_membersOf_11 (by decide) rfl ?_
  refine g_aload_n X dX2_membersOf_13 3 rfl ?_
  refine g_getR X (fH_X2_33_o (o := o1) ho1) rfl dX2_membersOf_14 ?_
  refine g_iload X dX2_membersOf_17 6 rfl ?_
  refine g_iald X (aF_0 (o := o1) ho1) dX2_membersOf_19 h (fun v1 h => ?_)
  refine g_aload_n X dX2_membersOf_20 2 rfl ?_
  refine g_getR X fH_X2_29_311 rfl dX2_membersOf_21 ?_
  refine g_getR X fH_X2_38_302 rfl dX2_membersOf_24 ?_
  refine g_iload X dX2_membersOf_27 0 rfl ?_
  refine g_iload_n X dX2_membersOf_29 5 rfl ?_
  refine g_iadd X dX2_membersOf_30 ?_
  refine g_iald X aH_351 dX2_membersOf_31 h (fun v2 h => ?_)
  refine g_isub X dX2_membersOf_32 ?_
  refine g_istore (lv' := [(9, iv (v1 - v2)), (8, iv ((a1 * 8) * 4)), (7, iv (a2 % 4)), (0, .ref (r 311)), (1, .ref (r (305 + o1))), (2, iv a1), (3, iv a2), (4, iv a3), (5, .long a4)]) X dX2_membersOf_33 (by decide) rfl ?_
  refine g_aload_n X dX2_membersOf_35 4 rfl ?_
  refine g_getR X (fH_X2_43_o (o := o1) ho1) rfl dX2_membersOf_36 ?_
  refine g_iload X dX2_membersOf_39 7 rfl ?_
  refine g_iald X (aF_1 (o := o1) ho1) dX2_membersOf_41 h (fun v3 h => ?_)
  refine g_aload_n X dX2_membersOf_42 3 rfl ?_
  refine g_getR X fH_X2_29_311 rfl dX2_membersOf_43 ?_
  refine g_getR X fH_X2_46_302 rfl dX2_membersOf_46 ?_
  refine g_iload X dX2_membersOf_49 1 rfl ?_
  refine g_iload_n X dX2_membersOf_51 6 rfl ?_
  refine g_iadd X dX2_membersOf_52 ?_
  refine g_iald X aH_352 dX2_membersOf_53 h (fun v4 h => ?_)
  refine g_isub X dX2_membersOf_54 ?_
  refine g_istore (lv' := [(10, iv (v3 - v4)), (9, iv (v1 - v2)), (8, iv ((a1 * 8) * 4)), (7, iv (a2 % 4)), (0, .ref (r 311)), (1, .ref (r (305 + o1))), (2, iv a1), (3, iv a2), (4, iv a3), (5, .long a4)]) X dX2_membersOf_55 (by decide) rfl ?_
  refine g_lconst (v := 0) X dX2_membersOf_57 (by decide) ?_
  refine g_lstore (lv' := [(11, .long (0 : Int64)), (10, iv (v3 - v4)), (9, iv (v1 - v2)), (8, iv ((a1 * 8) * 4)), (7, iv (a2 % 4)), (0, .ref (r 311)), (1, .ref (r (305 + o1))), (2, iv a1), (3, iv a2), (4, iv a3), (5, .long a4)]) X dX2_membersOf_58 (by decide) rfl ?_
  refine g_iconst X dX2_membersOf_60 ?_
  refine g_istore (lv' := [(13, iv 0), (11, .long (0 : Int64)), (10, iv (v3 - v4)), (9, iv (v1 - v2)), (8, iv ((a1 * 8) * 4)), (7, iv (a2 % 4)), (0, .ref (r 311)), (1, .ref (r (305 + o1))), (2, iv a1), (3, iv a2), (4, iv a3), (5, .long a4)]) X dX2_membersOf_61 (by decide) rfl ?_
  refine g_sub (lv' := [(0, .ref (r 311)), (1, .ref (r (305 + o1))), (2, iv a1), (5, .long a4), (7, iv (a2 % 4)), (8, iv ((a1 * 8) * 4)), (9, iv (v1 - v2)), (10, iv (v3 - v4)), (11, .long (0 : Int64)), (13, iv 0)]) [6, 7, 8, 11, 5, 4, 3, 2, 1, 0] rfl (t_f_X2_membersOf_L63 ho1 X (fun k26 t27 h => ?_) N (0 : Int64) 0 t h)
  · refine g_lload X dX2_membersOf_225 0 rfl ?_
    exact g_lret X h dX2_membersOf_227
set_option maxHeartbeats 4000000 in
set_option maxRecDepth 100000 in
theorem cp_X2_membersOf (l : Launch) (E : cE) (r : Nat → Nat) (N : Nat) (o1 : Nat) (ho1 : o1 < 2) (a1 : Int) (a2 : Int) (a3 : Int) (a4 : Int64) (t : St) (z : Int64 × St) (h : f_X2_membersOf N o1 a1 a2 a3 a4 t = some z) : cM l E yX2_membersOf cX2_membersOf 19 (some .long) rm_f_X2_membersOf [.ref (r 311), .ref (r (305 + o1)), iv a1, iv a2, iv a3, .long a4] (gW E r shH t) (gqL E (gW E r shH) z) := by
  refine g_of (w := gW E r shH) (by decide) (Nat.le_of_ble_eq_true rfl) ?_
  intro p e s m below meth c A X
  exact g_sub (lv' := [(0, .ref (r 311)), (1, .ref (r (305 + o1))), (2, iv a1), (3, iv a2), (4, iv a3), (5, .long a4)]) [0, 1, 2, 3, 4, 5] rfl (b_f_X2_membersOf ho1 X h)
theorem yy_X2_membersOf : cY yX2_membersOf cX2_membersOf 19 (some .long) 5 := ⟨wdK_X2_membersOf, wdZ_RX2, by decide +kernel⟩
theorem yi_X2_membersOf : cYi yX2_membersOf := ⟨wdN_X2_membersOf, wdS_X2_membersOf⟩
theorem dX2_part_0 : decode cX2_part 0 = .ok (.aload_n 0, 1) := by decide +kernel
theorem dX2_part_1 : decode cX2_part 1 = .ok (.getfield 29, 3) := by decide +kernel
theorem dX2_part_4 : decode cX2_part 4 = .ok (.getfield 49, 3) := by decide +kernel
theorem dX2_part_7 : decode cX2_part 7 = .ok (.iload_n 2, 1) := by decide +kernel
theorem dX2_part_8 : decode cX2_part 8 = .ok (.iaload, 1) := by decide +kernel
theorem dX2_part_9 : decode cX2_part 9 = .ok (.istore 5, 2) := by decide +kernel
theorem dX2_part_11 : decode cX2_part 11 = .ok (.aload_n 0, 1) := by decide +kernel
theorem dX2_part_12 : decode cX2_part 12 = .ok (.iconst 0, 1) := by decide +kernel
theorem dX2_part_13 : decode cX2_part 13 = .ok (.putfield 99, 3) := by decide +kernel
theorem dX2_part_16 : decode cX2_part 16 = .ok (.iload 5, 2) := by decide +kernel
theorem dX2_part_18 : decode cX2_part 18 = .ok (.ifCond .eq 13, 3) := by decide +kernel
theorem dX2_part_21 : decode cX2_part 21 = .ok (.lload_n 3, 1) := by decide +kernel
theorem dX2_part_22 : decode cX2_part 22 = .ok (.invokestatic 102, 3) := by decide +kernel
theorem dX2_part_25 : decode cX2_part 25 = .ok (.iload 5, 2) := by decide +kernel
theorem dX2_part_27 : decode cX2_part 27 = .ok (.irem, 1) := by decide +kernel
theorem dX2_part_28 : decode cX2_part 28 = .ok (.ifCond .eq 5, 3) := by decide +kernel
theorem dX2_part_31 : decode cX2_part 31 = .ok (.iconst 3, 1) := by decide +kernel
theorem dX2_part_32 : decode cX2_part 32 = .ok (.ireturn, 1) := by decide +kernel
theorem dX2_part_33 : decode cX2_part 33 = .ok (.lload_n 3, 1) := by decide +kernel
theorem dX2_part_34 : decode cX2_part 34 = .ok (.lstore 6, 2) := by decide +kernel
theorem dX2_part_36 : decode cX2_part 36 = .ok (.iconst 0, 1) := by decide +kernel
theorem dX2_part_37 : decode cX2_part 37 = .ok (.istore 8, 2) := by decide +kernel
theorem dX2_part_39 : decode cX2_part 39 = .ok (.aload_n 0, 1) := by decide +kernel
theorem dX2_part_40 : decode cX2_part 40 = .ok (.getfield 18, 3) := by decide +kernel
theorem dX2_part_43 : decode cX2_part 43 = .ok (.iconst 0, 1) := by decide +kernel
theorem dX2_part_44 : decode cX2_part 44 = .ok (.aload_n 1, 1) := by decide +kernel
theorem dX2_part_45 : decode cX2_part 45 = .ok (.lload 6, 2) := by decide +kernel
theorem dX2_part_47 : decode cX2_part 47 = .ok (.iconst 0, 1) := by decide +kernel
theorem dX2_part_48 : decode cX2_part 48 = .ok (.invokevirtual 108, 3) := by decide +kernel
theorem dX2_part_51 : decode cX2_part 51 = .ok (.iastore, 1) := by decide +kernel
theorem dX2_part_52 : decode cX2_part 52 = .ok (.aload_n 0, 1) := by decide +kernel
theorem dX2_part_53 : decode cX2_part 53 = .ok (.getfield 22, 3) := by decide +kernel
theorem dX2_part_56 : decode cX2_part 56 = .ok (.iconst 0, 1) := by decide +kernel
theorem dX2_part_57 : decode cX2_part 57 = .ok (.iconst (-1), 1) := by decide +kernel
theorem dX2_part_58 : decode cX2_part 58 = .ok (.iastore, 1) := by decide +kernel
theorem dX2_part_59 : decode cX2_part 59 = .ok (.iconst 0, 1) := by decide +kernel
theorem dX2_part_60 : decode cX2_part 60 = .ok (.istore 9, 2) := by decide +kernel
theorem dX2_part_62 : decode cX2_part 62 = .ok (.iload 9, 2) := by decide +kernel
theorem dX2_part_64 : decode cX2_part 64 = .ok (.sipush 1200, 3) := by decide +kernel
theorem dX2_part_67 : decode cX2_part 67 = .ok (.if_icmp .gt 204, 3) := by decide +kernel
theorem dX2_part_70 : decode cX2_part 70 = .ok (.lload 6, 2) := by decide +kernel
theorem dX2_part_72 : decode cX2_part 72 = .ok (.lconst 0, 1) := by decide +kernel
theorem dX2_part_73 : decode cX2_part 73 = .ok (.lcmp, 1) := by decide +kernel
theorem dX2_part_74 : decode cX2_part 74 = .ok (.ifCond .eq 197, 3) := by decide +kernel
theorem dX2_part_77 : decode cX2_part 77 = .ok (.aload_n 0, 1) := by decide +kernel
theorem dX2_part_78 : decode cX2_part 78 = .ok (.getfield 22, 3) := by decide +kernel
theorem dX2_part_81 : decode cX2_part 81 = .ok (.aload_n 0, 1) := by decide +kernel
theorem dX2_part_82 : decode cX2_part 82 = .ok (.getfield 99, 3) := by decide +kernel
theorem dX2_part_85 : decode cX2_part 85 = .ok (.dup2, 1) := by decide +kernel
theorem dX2_part_86 : decode cX2_part 86 = .ok (.iaload, 1) := by decide +kernel
theorem dX2_part_87 : decode cX2_part 87 = .ok (.iconst 1, 1) := by decide +kernel
theorem dX2_part_88 : decode cX2_part 88 = .ok (.iadd, 1) := by decide +kernel
theorem dX2_part_89 : decode cX2_part 89 = .ok (.iastore, 1) := by decide +kernel
theorem dX2_part_90 : decode cX2_part 90 = .ok (.aload_n 0, 1) := by decide +kernel
theorem dX2_part_91 : decode cX2_part 91 = .ok (.getfield 22, 3) := by decide +kernel
theorem dX2_part_94 : decode cX2_part 94 = .ok (.aload_n 0, 1) := by decide +kernel
theorem dX2_part_95 : decode cX2_part 95 = .ok (.getfield 99, 3) := by decide +kernel
theorem dX2_part_98 : decode cX2_part 98 = .ok (.iaload, 1) := by decide +kernel
theorem dX2_part_99 : decode cX2_part 99 = .ok (.iconst 4, 1) := by decide +kernel
theorem dX2_part_100 : decode cX2_part 100 = .ok (.iload 5, 2) := by decide +kernel
theorem dX2_part_102 : decode cX2_part 102 = .ok (.imul, 1) := by decide +kernel
theorem dX2_part_103 : decode cX2_part 103 = .ok (.if_icmp .lt 39, 3) := by decide +kernel
theorem dX2_part_106 : decode cX2_part 106 = .ok (.aload_n 0, 1) := by decide +kernel
theorem dX2_part_107 : decode cX2_part 107 = .ok (.getfield 99, 3) := by decide +kernel
theorem dX2_part_110 : decode cX2_part 110 = .ok (.ifCond .ne 5, 3) := by decide +kernel
theorem dX2_part_113 : decode cX2_part 113 = .ok (.iconst 3, 1) := by decide +kernel
theorem dX2_part_114 : decode cX2_part 114 = .ok (.ireturn, 1) := by decide +kernel
theorem dX2_part_115 : decode cX2_part 115 = .ok (.aload_n 0, 1) := by decide +kernel
theorem dX2_part_116 : decode cX2_part 116 = .ok (.dup, 1) := by decide +kernel
theorem dX2_part_117 : decode cX2_part 117 = .ok (.getfield 99, 3) := by decide +kernel
theorem dX2_part_120 : decode cX2_part 120 = .ok (.iconst 1, 1) := by decide +kernel
theorem dX2_part_121 : decode cX2_part 121 = .ok (.isub, 1) := by decide +kernel
theorem dX2_part_122 : decode cX2_part 122 = .ok (.putfield 99, 3) := by decide +kernel
theorem dX2_part_125 : decode cX2_part 125 = .ok (.lload 6, 2) := by decide +kernel
theorem dX2_part_127 : decode cX2_part 127 = .ok (.aload_n 0, 1) := by decide +kernel
theorem dX2_part_128 : decode cX2_part 128 = .ok (.getfield 25, 3) := by decide +kernel
theorem dX2_part_131 : decode cX2_part 131 = .ok (.aload_n 0, 1) := by decide +kernel
theorem dX2_part_132 : decode cX2_part 132 = .ok (.getfield 99, 3) := by decide +kernel
theorem dX2_part_135 : decode cX2_part 135 = .ok (.laload, 1) := by decide +kernel
theorem dX2_part_136 : decode cX2_part 136 = .ok (.lor, 1) := by decide +kernel
theorem dX2_part_137 : decode cX2_part 137 = .ok (.lstore 6, 2) := by decide +kernel
theorem dX2_part_139 : decode cX2_part 139 = .ok (.goto 126, 3) := by decide +kernel
theorem dX2_part_142 : decode cX2_part 142 = .ok (.iinc 8 1, 3) := by decide +kernel
theorem dX2_part_145 : decode cX2_part 145 = .ok (.iload 8, 2) := by decide +kernel
theorem dX2_part_147 : decode cX2_part 147 = .ok (.sipush 400, 3) := by decide +kernel
theorem dX2_part_150 : decode cX2_part 150 = .ok (.if_icmp .le 5, 3) := by decide +kernel
theorem dX2_part_153 : decode cX2_part 153 = .ok (.iconst 4, 1) := by decide +kernel
theorem dX2_part_154 : decode cX2_part 154 = .ok (.ireturn, 1) := by decide +kernel
theorem dX2_part_155 : decode cX2_part 155 = .ok (.aload_n 0, 1) := by decide +kernel
theorem dX2_part_156 : decode cX2_part 156 = .ok (.aload_n 1, 1) := by decide +kernel
theorem dX2_part_157 : decode cX2_part 157 = .ok (.iload_n 2, 1) := by decide +kernel
theorem dX2_part_158 : decode cX2_part 158 = .ok (.aload_n 0, 1) := by decide +kernel
theorem dX2_part_159 : decode cX2_part 159 = .ok (.getfield 22, 3) := by decide +kernel
theorem dX2_part_162 : decode cX2_part 162 = .ok (.aload_n 0, 1) := by decide +kernel
theorem dX2_part_163 : decode cX2_part 163 = .ok (.getfield 99, 3) := by decide +kernel
theorem dX2_part_166 : decode cX2_part 166 = .ok (.iaload, 1) := by decide +kernel
theorem dX2_part_167 : decode cX2_part 167 = .ok (.aload_n 1, 1) := by decide +kernel
theorem dX2_part_168 : decode cX2_part 168 = .ok (.getfield 86, 3) := by decide +kernel
theorem dX2_part_171 : decode cX2_part 171 = .ok (.aload_n 0, 1) := by decide +kernel
theorem dX2_part_172 : decode cX2_part 172 = .ok (.getfield 18, 3) := by decide +kernel
theorem dX2_part_175 : decode cX2_part 175 = .ok (.aload_n 0, 1) := by decide +kernel
theorem dX2_part_176 : decode cX2_part 176 = .ok (.getfield 99, 3) := by decide +kernel
theorem dX2_part_179 : decode cX2_part 179 = .ok (.iaload, 1) := by decide +kernel
theorem dX2_part_180 : decode cX2_part 180 = .ok (.iaload, 1) := by decide +kernel
theorem dX2_part_181 : decode cX2_part 181 = .ok (.lload 6, 2) := by decide +kernel
theorem dX2_part_183 : decode cX2_part 183 = .ok (.invokevirtual 89, 3) := by decide +kernel
theorem dX2_part_186 : decode cX2_part 186 = .ok (.lstore 10, 2) := by decide +kernel
theorem dX2_part_188 : decode cX2_part 188 = .ok (.lload 10, 2) := by decide +kernel
theorem dX2_part_190 : decode cX2_part 190 = .ok (.lconst 0, 1) := by decide +kernel
theorem dX2_part_191 : decode cX2_part 191 = .ok (.lcmp, 1) := by decide +kernel
theorem dX2_part_192 : decode cX2_part 192 = .ok (.ifCond .eq 73, 3) := by decide +kernel
theorem dX2_part_195 : decode cX2_part 195 = .ok (.aload_n 0, 1) := by decide +kernel
theorem dX2_part_196 : decode cX2_part 196 = .ok (.getfield 25, 3) := by decide +kernel
theorem dX2_part_199 : decode cX2_part 199 = .ok (.aload_n 0, 1) := by decide +kernel
theorem dX2_part_200 : decode cX2_part 200 = .ok (.getfield 99, 3) := by decide +kernel
theorem dX2_part_203 : decode cX2_part 203 = .ok (.lload 10, 2) := by decide +kernel
theorem dX2_part_205 : decode cX2_part 205 = .ok (.lastore, 1) := by decide +kernel
theorem dX2_part_206 : decode cX2_part 206 = .ok (.lload 6, 2) := by decide +kernel
theorem dX2_part_208 : decode cX2_part 208 = .ok (.lload 10, 2) := by decide +kernel
theorem dX2_part_210 : decode cX2_part 210 = .ok (.ldc2_w 93, 3) := by decide +kernel
theorem dX2_part_213 : decode cX2_part 213 = .ok (.lxor, 1) := by decide +kernel
theorem dX2_part_214 : decode cX2_part 214 = .ok (.land, 1) := by decide +kernel
theorem dX2_part_215 : decode cX2_part 215 = .ok (.lstore 6, 2) := by decide +kernel
theorem dX2_part_217 : decode cX2_part 217 = .ok (.aload_n 0, 1) := by decide +kernel
theorem dX2_part_218 : decode cX2_part 218 = .ok (.getfield 18, 3) := by decide +kernel
theorem dX2_part_221 : decode cX2_part 221 = .ok (.aload_n 0, 1) := by decide +kernel
theorem dX2_part_222 : decode cX2_part 222 = .ok (.getfield 99, 3) := by decide +kernel
theorem dX2_part_225 : decode cX2_part 225 = .ok (.iconst 1, 1) := by decide +kernel
theorem dX2_part_226 : decode cX2_part 226 = .ok (.iadd, 1) := by decide +kernel
theorem dX2_part_227 : decode cX2_part 227 = .ok (.aload_n 1, 1) := by decide +kernel
theorem dX2_part_228 : decode cX2_part 228 = .ok (.lload 6, 2) := by decide +kernel
theorem dX2_part_230 : decode cX2_part 230 = .ok (.aload_n 0, 1) := by decide +kernel
theorem dX2_part_231 : decode cX2_part 231 = .ok (.getfield 18, 3) := by decide +kernel
theorem dX2_part_234 : decode cX2_part 234 = .ok (.aload_n 0, 1) := by decide +kernel
theorem dX2_part_235 : decode cX2_part 235 = .ok (.getfield 99, 3) := by decide +kernel
theorem dX2_part_238 : decode cX2_part 238 = .ok (.iaload, 1) := by decide +kernel
theorem dX2_part_239 : decode cX2_part 239 = .ok (.invokevirtual 108, 3) := by decide +kernel
theorem dX2_part_242 : decode cX2_part 242 = .ok (.iastore, 1) := by decide +kernel
theorem dX2_part_243 : decode cX2_part 243 = .ok (.aload_n 0, 1) := by decide +kernel
theorem dX2_part_244 : decode cX2_part 244 = .ok (.getfield 22, 3) := by decide +kernel
theorem dX2_part_247 : decode cX2_part 247 = .ok (.aload_n 0, 1) := by decide +kernel
theorem dX2_part_248 : decode cX2_part 248 = .ok (.getfield 99, 3) := by decide +kernel
theorem dX2_part_251 : decode cX2_part 251 = .ok (.iconst 1, 1) := by decide +kernel
theorem dX2_part_252 : decode cX2_part 252 = .ok (.iadd, 1) := by decide +kernel
theorem dX2_part_253 : decode cX2_part 253 = .ok (.iconst (-1), 1) := by decide +kernel
theorem dX2_part_254 : decode cX2_part 254 = .ok (.iastore, 1) := by decide +kernel
theorem dX2_part_255 : decode cX2_part 255 = .ok (.aload_n 0, 1) := by decide +kernel
theorem dX2_part_256 : decode cX2_part 256 = .ok (.dup, 1) := by decide +kernel
theorem dX2_part_257 : decode cX2_part 257 = .ok (.getfield 99, 3) := by decide +kernel
theorem dX2_part_260 : decode cX2_part 260 = .ok (.iconst 1, 1) := by decide +kernel
theorem dX2_part_261 : decode cX2_part 261 = .ok (.iadd, 1) := by decide +kernel
theorem dX2_part_262 : decode cX2_part 262 = .ok (.putfield 99, 3) := by decide +kernel
theorem dX2_part_265 : decode cX2_part 265 = .ok (.iinc 9 1, 3) := by decide +kernel
theorem dX2_part_268 : decode cX2_part 268 = .ok (.goto (-206), 3) := by decide +kernel
theorem dX2_part_271 : decode cX2_part 271 = .ok (.lload 6, 2) := by decide +kernel
theorem dX2_part_273 : decode cX2_part 273 = .ok (.lconst 0, 1) := by decide +kernel
theorem dX2_part_274 : decode cX2_part 274 = .ok (.lcmp, 1) := by decide +kernel
theorem dX2_part_275 : decode cX2_part 275 = .ok (.ifCond .ne 7, 3) := by decide +kernel
theorem dX2_part_278 : decode cX2_part 278 = .ok (.iconst 0, 1) := by decide +kernel
theorem dX2_part_279 : decode cX2_part 279 = .ok (.goto 4, 3) := by decide +kernel
theorem dX2_part_282 : decode cX2_part 282 = .ok (.iconst 4, 1) := by decide +kernel
theorem dX2_part_283 : decode cX2_part 283 = .ok (.ireturn, 1) := by decide +kernel
abbrev rm_f_X2_part : Room := { frames := 2, cells := 0, slots := 0, locals := 60 }
def f_X2_part_L62 (N : Nat) (o1 : Nat) (K15 : (Int64 → St → Option (Int × St))) (y9 : Int) (y10 : Int) : Nat → Int64 → Int → Int → St → Option (Int × St)
  | 0, _, _, _, _ => none
  | n9 + 1, x11, x12, x13, t14 =>
    cmpI x13 1200 (if 1200 < x13 then (K15 x11 t14)
    else ((if x11 = (0 : Int64) then (K15 x11 t14)
    else (lt1 (t14.1 311 9) fun v16 =>
    ixI v16 65 (lt1 (t14.1 383 v16.toNat) fun v17 =>
    ixI v16 65 (lt1 (pI t14 383 v16.toNat (v17 + 1)) fun t18 =>
    lt1 (t18.1 311 9) fun v19 =>
    ixI v19 65 (lt1 (t18.1 383 v19.toNat) fun v20 =>
    jn1 (fun (j21 : Int64) (j22 : Int) (t23 : St) => f_X2_part_L62 N o1 K15 y9 y10 n9 j21 j22 (x13 + 1) t23) fun J24 =>
    cmpI v20 (4 * y10) (if v20 < (4 * y10) then (cmpI (x12 + 1) 400 (if 400 < (x12 + 1) then (some (4, t18))
    else (lt1 (t18.1 311 9) fun v25 =>
    ixI v25 65 (lt1 (t18.1 383 v25.toNat) fun v26 =>
    lt1 (t18.1 311 9) fun v27 =>
    ixI v27 65 (lt1 (t18.1 382 v27.toNat) fun v28 =>
    ixI v28 64 (lt1 (t18.1 (395 + 10 * o1) v28.toNat) fun v29 =>
    bdL (f_X2_membersOf N o1 y9 v26 v29 x11 t18) fun v31 t30 =>
    (if v31 = (0 : Int64) then (J24 x11 (x12 + 1) t30)
    else (lt1 (t30.1 311 9) fun v32 =>
    ixI v32 65 (lt1 (pL t30 384 v32.toNat v31) fun t33 =>
    lt1 (t33.1 311 9) fun v34 =>
    lt1 (t33.1 311 9) fun v35 =>
    ixI v35 65 (lt1 (t33.1 382 v35.toNat) fun v36 =>
    bdI (f_X3_firstOf N o1 (x11 &&& (v31 ^^^ (-1 : Int64))) v36 t33) fun v38 t37 =>
    ixI (v34 + 1) 65 (lt1 (pI t37 382 (v34 + 1).toNat v38) fun t39 =>
    lt1 (t39.1 311 9) fun v40 =>
    ixI (v40 + 1) 65 (lt1 (pI t39 383 (v40 + 1).toNat (-1)) fun t41 =>
    lt1 (t41.1 311 9) fun v42 =>
    lt1 (pI t41 311 9 (v42 + 1)) fun t43 =>
    J24 (x11 &&& (v31 ^^^ (-1 : Int64))) (x12 + 1) t43))))))))))))
    else (lt1 (t18.1 311 9) fun v44 =>
    cmpI v44 0 (if v44 = 0 then (some (3, t18))
    else (lt1 (t18.1 311 9) fun v45 =>
    lt1 (pI t18 311 9 (v45 - 1)) fun t46 =>
    lt1 (t46.1 311 9) fun v47 =>
    ixI v47 65 (lt1 (t46.2 384 v47.toNat) fun v48 =>
    J24 (x11 ||| v48) x12 t46))))))))))))
def f_X2_part (N : Nat) (o1 : Nat) (a1 : Int) (a2 : Int64) (t : St) : Option (Int × St) :=
    ixI a1 40 (lt1 (t.1 350 a1.toNat) fun v1 =>
    lt1 (pI t 311 9 0) fun t2 =>
    cmpI v1 0 (if v1 = 0 then (some (3, t2))
    else (bdI (f_J13_bitCount_95d88 N a2 t2) fun v4 t3 =>
    dvI v4 v1 (
    cmpI (v4 % v1) 0 (if (v4 % v1) = 0 then (bdI (f_X3_firstOf N o1 a2 0 t3) fun v6 t5 =>
    ixI 0 65 (lt1 (pI t5 382 (0 : Int).toNat v6) fun t7 =>
    ixI 0 65 (lt1 (pI t7 383 (0 : Int).toNat (-1)) fun t8 =>
    f_X2_part_L62 N o1 (fun (k49 : Int64) (t50 : St) => (if k49 = (0 : Int64) then (some (0, t50))
    else (some (4, t50)))) a1 v1 N a2 0 0 t8)))
    else (some (3, t3)))))))
set_option maxHeartbeats 4000000 in
set_option maxRecDepth 100000 in
theorem t_f_X2_part_L62 {p : Program} {l : Launch} {e : Env} {s : State} {m : MethodId} {args : Array Value} {below : List Frame} {meth : Method} {c : Code} {E : cE} {A : Nat → Prop} {r : Nat → Nat} {mc ms : Nat} {z : Int × St} {o1 : Nat} (ho1 : o1 < 2) {N : Nat} {K15 : (Int64 → St → Option (Int × St))} {y9 : Int} {y10 : Int} (X : gX p s m meth c cX2_part 12 (some .int) yX2_part args E A) (hK15 : ∀ (q6 : Int64) (t9 : St), K15 q6 t9 = some z → gP p l e rm_f_X2_part s m args below meth c E A 12 (MQ below ((gqI E (gW E r shH) z) A) args s mc ms A) (gW E r shH) 271 [(6, .long q6)] [] t9) : ∀ (n9 : Nat) (x11 : Int64) (x12 : Int) (x13 : Int) (t14 : St), f_X2_part_L62 N o1 K15 y9 y10 n9 x11 x12 x13 t14 = some z → gP p l e rm_f_X2_part s m args below meth c E A 12 (MQ below ((gqI E (gW E r shH) z) A) args s mc ms A) (gW E r shH) 62 [(0, .ref (r 311)), (1, .ref (r (305 + o1))), (2, iv y9), (5, iv y10), (6, .long x11), (8, iv x12), (9, iv x13)] [] t14 := by
  intro n9
  induction n9 with
  | zero => intro x11 x12 x13 t14 h; cases h
  | succ n9 ih =>
    intro x11 x12 x13 t14 h
    unfold f_X2_part_L62 at h
    refine g_iload X dX2_part_62 6 rfl ?_
    refine g_sipush X dX2_part_64 (by decide) ?_
    refine g_icmp_gt (tgt := 271) X dX2_part_67 (by decide) h (fun h => ?_) (fun h => ?_)
    · exact g_sub (lv' := [(6, .long x11)]) [4] rfl (hK15 x11 t14 h)
    · refine g_lload X dX2_part_70 4 rfl ?_
      refine g_lconst (v := 0) X dX2_part_72 (by decide) ?_
      refine g_lcmp_eq (tgt := 271) X dX2_part_73 dX2_part_74 (by decide) h (fun h => ?_) (fun h => ?_)
      · exact g_sub (lv' := [(6, .long x11)]) [4] rfl (hK15 x11 t14 h)
      · refine g_aload_n X dX2_part_77 0 rfl ?_
        refine g_getR X fH_X2_22_311 rfl dX2_part_78 ?_
        refine g_aload_n X dX2_part_81 0 rfl ?_
        refine g_getI X fH_X2_99_311 rfl dX2_part_82 h (fun v16 h => ?_)
        refine g_dup2 X rfl rfl dX2_part_85 ?_
        refine g_iald X aH_383 dX2_part_86 h (fun v17 h => ?_)
        refine g_iconst X dX2_part_87 ?_
        refine g_iadd X dX2_part_88 ?_
        refine g_iast X aH_383 dX2_part_89 h (fun t18 h => ?_)
        refine g_aload_n X dX2_part_90 0 rfl ?_
        refine g_getR X fH_X2_22_311 rfl dX2_part_91 ?_
        refine g_aload_n X dX2_part_94 0 rfl ?_
        refine g_getI X fH_X2_99_311 rfl dX2_part_95 h (fun v19 h => ?_)
        refine g_iald X aH_383 dX2_part_98 h (fun v20 h => ?_)
        refine g_iconst X dX2_part_99 ?_
        refine g_iload X dX2_part_100 3 rfl ?_
        refine g_imul X dX2_part_102 ?_
        refine g_join (J := fun jj => ∀ (j21 : Int64) (j22 : Int) (t23 : St), jj j21 j22 t23 = some z → gP p l e rm_f_X2_part s m args below meth c E A 12 (MQ below ((gqI E (gW E r shH) z) A) args s mc ms A) (gW E r shH) 265 [(0, .ref (r 311)), (1, .ref (r (305 + o1))), (2, iv y9), (5, iv y10), (6, .long j21), (8, iv j22), (9, iv x13)] [] t23) h (fun j21 j22 t23 h => ?_) (fun J24 hJ24 h => ?_)
        · refine g_iinc (lv' := [(9, iv (x13 + 1)), (0, .ref (r 311)), (1, .ref (r (305 + o1))), (2, iv y9), (5, iv y10), (6, .long j21), (8, iv j22)]) X dX2_part_265 (k := 6) rfl (by decide) rfl ?_
          refine g_goto (tgt := 62) X dX2_part_268 (by decide) ?_
          exact g_sub (lv' := [(0, .ref (r 311)), (1, .ref (r (305 + o1))), (2, iv y9), (5, iv y10), (6, .long j21), (8, iv j22), (9, iv (x13 + 1))]) [1, 2, 3, 4, 5, 6, 0] rfl (ih j21 j22 (x13 + 1) t23 h)
        refine g_icmp_lt (tgt := 142) X dX2_part_103 (by decide) h (fun h => ?_) (fun h => ?_)
        · refine g_iinc (lv' := [(8, iv (x12 + 1)), (0, .ref (r 311)), (1, .ref (r (305 + o1))), (2, iv y9), (5, iv y10), (6, .long x11), (9, iv x13)]) X dX2_part_142 (k := 5) rfl (by decide) rfl ?_
          refine g_iload X dX2_part_145 0 rfl ?_
          refine g_sipush X dX2_part_147 (by decide) ?_
          refine g_icmp_le (tgt := 155) X dX2_part_150 (by decide) h (fun h => ?_) (fun h => ?_)
          · refine g_aload_n X dX2_part_155 1 rfl ?_
            refine g_aload_n X dX2_part_156 2 rfl ?_
            refine g_iload_n X dX2_part_157 3 rfl ?_
            refine g_aload_n X dX2_part_158 1 rfl ?_
            refine g_getR X fH_X2_22_311 rfl dX2_part_159 ?_
            refine g_aload_n X dX2_part_162 1 rfl ?_
            refine g_getI X fH_X2_99_311 rfl dX2_part_163 h (fun v25 h => ?_)
            refine g_iald X aH_383 dX2_part_166 h (fun v26 h => ?_)
            refine g_aload_n X dX2_part_167 2 rfl ?_
            refine g_getR X (fH_X2_86_o (o := o1) ho1) rfl dX2_part_168 ?_
            refine g_aload_n X dX2_part_171 1 rfl ?_
            refine g_getR X fH_X2_18_311 rfl dX2_part_172 ?_
            refine g_aload_n X dX2_part_175 1 rfl ?_
            refine g_getI X fH_X2_99_311 rfl dX2_part_176 h (fun v27 h => ?_)
            refine g_iald X aH_382 dX2_part_179 h (fun v28 h => ?_)
            refine g_iald X (aF_5 (o := o1) ho1) dX2_part_180 h (fun v29 h => ?_)
            refine g_lload X dX2_part_181 5 rfl ?_
            refine g_callOL (rest := []) X (fun u9 h9 => cp_X2_membersOf l E r N o1 ho1 y9 v26 v29 x11 t18 u9 h9) yy_X2_membersOf yi_X2_membersOf wdM_RX2_89 ⟨_, _, oH_311⟩ rfl rfl rfl (Nat.le_of_ble_eq_true rfl) dX2_part_183 ⟨by decide, by decide⟩ ⟨rfl, rfl⟩ h (fun v31 t30 h => ?_)
            refine g_lstore (lv' := [(10, .long v31), (8, iv (x12 + 1)), (0, .ref (r 311)), (1, .ref (r (305 + o1))), (2, iv y9), (5, iv y10), (6, .long x11), (9, iv x13)]) X dX2_part_186 (by decide) rfl ?_
            refine g_lload X dX2_part_188 0 rfl ?_
            refine g_lconst (v := 0) X dX2_part_190 (by decide) ?_
            refine g_lcmp_eq (tgt := 265) X dX2_part_191 dX2_part_192 (by decide) h (fun h => ?_) (fun h => ?_)
            · exact g_sub (lv' := [(0, .ref (r 311)), (1, .ref (r (305 + o1))), (2, iv y9), (5, iv y10), (6, .long x11), (8, iv (x12 + 1)), (9, iv x13)]) [2, 3, 4, 5, 6, 1, 7] rfl (hJ24 x11 (x12 + 1) t30 h)
            · refine g_aload_n X dX2_part_195 2 rfl ?_
              refine g_getR X fH_X2_25_311 rfl dX2_part_196 ?_
              refine g_aload_n X dX2_part_199 2 rfl ?_
              refine g_getI X fH_X2_99_311 rfl dX2_part_200 h (fun v32 h => ?_)
              refine g_lload X dX2_part_203 0 rfl ?_
              refine g_last X aH_384 dX2_part_205 h (fun t33 h => ?_)
              refine g_lload X dX2_part_206 6 rfl ?_
              refine g_lload X dX2_part_208 0 rfl ?_
              refine g_ldc2 X rfl wdL_RX2_93 dX2_part_210 ?_
              refine g_lxor X dX2_part_213 ?_
              refine g_land X dX2_part_214 ?_
              refine g_lstore (lv' := [(6, .long (x11 &&& (v31 ^^^ (-1 : Int64)))), (10, .long v31), (8, iv (x12 + 1)), (0, .ref (r 311)), (1, .ref (r (305 + o1))), (2, iv y9), (5, iv y10), (9, iv x13)]) X dX2_part_215 (by decide) rfl ?_
              refine g_aload_n X dX2_part_217 3 rfl ?_
              refine g_getR X fH_X2_18_311 rfl dX2_part_218 ?_
              refine g_aload_n X dX2_part_221 3 rfl ?_
              refine g_getI X fH_X2_99_311 rfl dX2_part_222 h (fun v34 h => ?_)
              refine g_iconst X dX2_part_225 ?_
              refine g_iadd X dX2_part_226 ?_
              refine g_aload_n X dX2_part_227 4 rfl ?_
              refine g_lload X dX2_part_228 0 rfl ?_
              refine g_aload_n X dX2_part_230 3 rfl ?_
              refine g_getR X fH_X2_18_311 rfl dX2_part_231 ?_
              refine g_aload_n X dX2_part_234 3 rfl ?_
              refine g_getI X fH_X2_99_311 rfl dX2_part_235 h (fun v35 h => ?_)
              refine g_iald X aH_382 dX2_part_238 h (fun v36 h => ?_)
              refine g_callOI (rest := [iv (v34 + 1), .ref (r 382)]) X (fun u9 h9 => cp_X3_firstOf l E r N o1 ho1 (x11 &&& (v31 ^^^ (-1 : Int64))) v36 t33 u9 h9) yy_X3_firstOf yi_X3_firstOf wdM_RX2_108 (oX3 (o := o1) ho1) rfl rfl rfl (Nat.le_of_ble_eq_true rfl) dX2_part_239 ⟨by decide, by decide⟩ ⟨rfl, rfl⟩ h (fun v38 t37 h => ?_)
              refine g_iast X aH_382 dX2_part_242 h (fun t39 h => ?_)
              refine g_aload_n X dX2_part_243 3 rfl ?_
              refine g_getR X fH_X2_22_311 rfl dX2_part_244 ?_
              refine g_aload_n X dX2_part_247 3 rfl ?_
              refine g_getI X fH_X2_99_311 rfl dX2_part_248 h (fun v40 h => ?_)
              refine g_iconst X dX2_part_251 ?_
              refine g_iadd X dX2_part_252 ?_
              refine g_iconst X dX2_part_253 ?_
              refine g_iast X aH_383 dX2_part_254 h (fun t41 h => ?_)
              refine g_aload_n X dX2_part_255 3 rfl ?_
              refine g_dup X rfl dX2_part_256 ?_
              refine g_getI X fH_X2_99_311 rfl dX2_part_257 h (fun v42 h => ?_)
              refine g_iconst X dX2_part_260 ?_
              refine g_iadd X dX2_part_261 ?_
              refine g_putI X fH_X2_99_311w rfl dX2_part_262 h (fun t43 h => ?_)
              exact g_sub (lv' := [(0, .ref (r 311)), (1, .ref (r (305 + o1))), (2, iv y9), (5, iv y10), (6, .long (x11 &&& (v31 ^^^ (-1 : Int64)))), (8, iv (x12 + 1)), (9, iv x13)]) [3, 4, 5, 6, 0, 2, 7] rfl (hJ24 (x11 &&& (v31 ^^^ (-1 : Int64))) (x12 + 1) t43 h)
          · refine g_iconst X dX2_part_153 ?_
            exact g_iret X h dX2_part_154
        · refine g_aload_n X dX2_part_106 0 rfl ?_
          refine g_getI X fH_X2_99_311 rfl dX2_part_107 h (fun v44 h => ?_)
          refine g_if_ne (tgt := 115) X dX2_part_110 (by decide) h (fun h => ?_) (fun h => ?_)
          · refine g_aload_n X dX2_part_115 0 rfl ?_
            refine g_dup X rfl dX2_part_116 ?_
            refine g_getI X fH_X2_99_311 rfl dX2_part_117 h (fun v45 h => ?_)
            refine g_iconst X dX2_part_120 ?_
            refine g_isub X dX2_part_121 ?_
            refine g_putI X fH_X2_99_311w rfl dX2_part_122 h (fun t46 h => ?_)
            refine g_lload X dX2_part_125 4 rfl ?_
            refine g_aload_n X dX2_part_127 0 rfl ?_
            refine g_getR X fH_X2_25_311 rfl dX2_part_128 ?_
            refine g_aload_n X dX2_part_131 0 rfl ?_
            refine g_getI X fH_X2_99_311 rfl dX2_part_132 h (fun v47 h => ?_)
            refine g_lald X aH_384 dX2_part_135 h (fun v48 h => ?_)
            refine g_lor X dX2_part_136 ?_
            refine g_lstore (lv' := [(6, .long (x11 ||| v48)), (0, .ref (r 311)), (1, .ref (r (305 + o1))), (2, iv y9), (5, iv y10), (8, iv x12), (9, iv x13)]) X dX2_part_137 (by decide) rfl ?_
            refine g_goto (tgt := 265) X dX2_part_139 (by decide) ?_
            exact g_sub (lv' := [(0, .ref (r 311)), (1, .ref (r (305 + o1))), (2, iv y9), (5, iv y10), (6, .long (x11 ||| v48)), (8, iv x12), (9, iv x13)]) [1, 2, 3, 4, 0, 5, 6] rfl (hJ24 (x11 ||| v48) x12 t46 h)
          · refine g_iconst X dX2_part_113 ?_
            exact g_iret X h dX2_part_114
set_option maxHeartbeats 4000000 in
set_option maxRecDepth 100000 in
theorem b_f_X2_part {p : Program} {l : Launch} {e : Env} {s : State} {m : MethodId} {args : Array Value} {below : List Frame} {meth : Method} {c : Code} {E : cE} {A : Nat → Prop} {r : Nat → Nat} {mc ms : Nat} {z : Int × St} {N : Nat} {o1 : Nat} (ho1 : o1 < 2) {a1 : Int} {a2 : Int64} {t : St} (X : gX p s m meth c cX2_part 12 (some .int) yX2_part args E A) (h : f_X2_part N o1 a1 a2 t = some z) : gP p l e rm_f_X2_part s m args below meth c E A 12 (MQ below ((gqI E (gW E r shH) z) A) args s mc ms A) (gW E r shH) 0 [(0, .ref (r 311)), (1, .ref (r (305 + o1))), (2, iv a1), (3, .long a2)] [] t := by
  unfold f_X2_part at h
  refine g_aload_n X dX2_part_0 0 rfl ?_
  refine g_getR X fH_X2_29_311 rfl dX2_part_1 ?_
  refine g_getR X fH_X2_49_302 rfl dX2_part_4 ?_
  refine g_iload_n X dX2_part_7 2 rfl ?_
  refine g_iald X aH_350 dX2_part_8 h (fun v1 h => ?_)
  refine g_istore (lv' := [(5, iv v1), (0, .ref (r 311)), (1, .ref (r (305 + o1))), (2, iv a1), (3, .long a2)]) X dX2_part_9 (by decide) rfl ?_
  refine g_aload_n X dX2_part_11 1 rfl ?_
  refine g_iconst X dX2_part_12 ?_
  refine g_putI X fH_X2_99_311w rfl dX2_part_13 h (fun t2 h => ?_)
  refine g_iload X dX2_part_16 0 rfl ?_
  refine g_if_eq (tgt := 31) X dX2_part_18 (by decide) h (fun h => ?_) (fun h => ?_)
  · refine g_iconst X dX2_part_31 ?_
    exact g_iret X h dX2_part_32
  · refine g_lload_n X dX2_part_21 4 rfl ?_
    refine g_callsI (rest := []) X (fun u9 h9 => cp_J13_bitCount_95d88 l E r N a2 t2 u9 h9) yy_J13_bitCount_95d88 wdT_J13_bitCount_95d88 wdM_RX2_102 rfl rfl (Nat.le_of_ble_eq_true rfl) dX2_part_22 ⟨by decide, by decide⟩ ⟨rfl, rfl⟩ h (fun v4 t3 h => ?_)
    refine g_iload X dX2_part_25 0 rfl ?_
    refine g_irem X dX2_part_27 h (fun h => ?_)
    refine g_if_eq (tgt := 33) X dX2_part_28 (by decide) h (fun h => ?_) (fun h => ?_)
    · refine g_lload_n X dX2_part_33 4 rfl ?_
      refine g_lstore (lv' := [(6, .long a2), (5, iv v1), (0, .ref (r 311)), (1, .ref (r (305 + o1))), (2, iv a1), (3, .long a2)]) X dX2_part_34 (by decide) rfl ?_
      refine g_iconst X dX2_part_36 ?_
      refine g_istore (lv' := [(8, iv 0), (6, .long a2), (5, iv v1), (0, .ref (r 311)), (1, .ref (r (305 + o1))), (2, iv a1), (3, .long a2)]) X dX2_part_37 (by decide) rfl ?_
      refine g_aload_n X dX2_part_39 3 rfl ?_
      refine g_getR X fH_X2_18_311 rfl dX2_part_40 ?_
      refine g_iconst X dX2_part_43 ?_
      refine g_aload_n X dX2_part_44 4 rfl ?_
      refine g_lload X dX2_part_45 1 rfl ?_
      refine g_iconst X dX2_part_47 ?_
      refine g_callOI (rest := [iv 0, .ref (r 382)]) X (fun u9 h9 => cp_X3_firstOf l E r N o1 ho1 a2 0 t3 u9 h9) yy_X3_firstOf yi_X3_firstOf wdM_RX2_108 (oX3 (o := o1) ho1) rfl rfl rfl (Nat.le_of_ble_eq_true rfl) dX2_part_48 ⟨by decide, by decide⟩ ⟨rfl, rfl⟩ h (fun v6 t5 h => ?_)
      refine g_iast X aH_382 dX2_part_51 h (fun t7 h => ?_)
      refine g_aload_n X dX2_part_52 3 rfl ?_
      refine g_getR X fH_X2_22_311 rfl dX2_part_53 ?_
      refine g_iconst X dX2_part_56 ?_
      refine g_iconst X dX2_part_57 ?_
      refine g_iast X aH_383 dX2_part_58 h (fun t8 h => ?_)
      refine g_iconst X dX2_part_59 ?_
      refine g_istore (lv' := [(9, iv 0), (8, iv 0), (6, .long a2), (5, iv v1), (0, .ref (r 311)), (1, .ref (r (305 + o1))), (2, iv a1), (3, .long a2)]) X dX2_part_60 (by decide) rfl ?_
      refine g_sub (lv' := [(0, .ref (r 311)), (1, .ref (r (305 + o1))), (2, iv a1), (5, iv v1), (6, .long a2), (8, iv 0), (9, iv 0)]) [4, 5, 6, 3, 2, 1, 0] rfl (t_f_X2_part_L62 ho1 X (fun k49 t50 h => ?_) N a2 0 0 t8 h)
      · refine g_lload X dX2_part_271 0 rfl ?_
        refine g_lconst (v := 0) X dX2_part_273 (by decide) ?_
        refine g_lcmp_ne (tgt := 282) X dX2_part_274 dX2_part_275 (by decide) h (fun h => ?_) (fun h => ?_)
        · refine g_iconst X dX2_part_282 ?_
          exact g_iret X h dX2_part_283
        · refine g_iconst X dX2_part_278 ?_
          refine g_goto (tgt := 283) X dX2_part_279 (by decide) ?_
          exact g_iret X h dX2_part_283
    · refine g_iconst X dX2_part_31 ?_
      exact g_iret X h dX2_part_32
set_option maxHeartbeats 4000000 in
set_option maxRecDepth 100000 in
theorem cp_X2_part (l : Launch) (E : cE) (r : Nat → Nat) (N : Nat) (o1 : Nat) (ho1 : o1 < 2) (a1 : Int) (a2 : Int64) (t : St) (z : Int × St) (h : f_X2_part N o1 a1 a2 t = some z) : cM l E yX2_part cX2_part 12 (some .int) rm_f_X2_part [.ref (r 311), .ref (r (305 + o1)), iv a1, .long a2] (gW E r shH t) (gqI E (gW E r shH) z) := by
  refine g_of (w := gW E r shH) (by decide) (Nat.le_of_ble_eq_true rfl) ?_
  intro p e s m below meth c A X
  exact g_sub (lv' := [(0, .ref (r 311)), (1, .ref (r (305 + o1))), (2, iv a1), (3, .long a2)]) [0, 1, 2, 3] rfl (b_f_X2_part ho1 X h)
theorem yy_X2_part : cY yX2_part cX2_part 12 (some .int) 3 := ⟨wdK_X2_part, wdZ_RX2, by decide +kernel⟩
theorem yi_X2_part : cYi yX2_part := ⟨wdN_X2_part, wdS_X2_part⟩
theorem dJ7_fill_031fb_0 : decode cJ7_fill_031fb 0 = .ok (.iconst 0, 1) := by decide +kernel
theorem dJ7_fill_031fb_1 : decode cJ7_fill_031fb 1 = .ok (.istore_n 2, 1) := by decide +kernel
theorem dJ7_fill_031fb_2 : decode cJ7_fill_031fb 2 = .ok (.aload_n 0, 1) := by decide +kernel
theorem dJ7_fill_031fb_3 : decode cJ7_fill_031fb 3 = .ok (.arraylength, 1) := by decide +kernel
theorem dJ7_fill_031fb_4 : decode cJ7_fill_031fb 4 = .ok (.istore_n 3, 1) := by decide +kernel
theorem dJ7_fill_031fb_5 : decode cJ7_fill_031fb 5 = .ok (.iload_n 2, 1) := by decide +kernel
theorem dJ7_fill_031fb_6 : decode cJ7_fill_031fb 6 = .ok (.iload_n 3, 1) := by decide +kernel
theorem dJ7_fill_031fb_7 : decode cJ7_fill_031fb 7 = .ok (.if_icmp .ge 13, 3) := by decide +kernel
theorem dJ7_fill_031fb_10 : decode cJ7_fill_031fb 10 = .ok (.aload_n 0, 1) := by decide +kernel
theorem dJ7_fill_031fb_11 : decode cJ7_fill_031fb 11 = .ok (.iload_n 2, 1) := by decide +kernel
theorem dJ7_fill_031fb_12 : decode cJ7_fill_031fb 12 = .ok (.iload_n 1, 1) := by decide +kernel
theorem dJ7_fill_031fb_13 : decode cJ7_fill_031fb 13 = .ok (.bastore, 1) := by decide +kernel
theorem dJ7_fill_031fb_14 : decode cJ7_fill_031fb 14 = .ok (.iinc 2 1, 3) := by decide +kernel
theorem dJ7_fill_031fb_17 : decode cJ7_fill_031fb 17 = .ok (.goto (-12), 3) := by decide +kernel
theorem dJ7_fill_031fb_20 : decode cJ7_fill_031fb 20 = .ok (.return_, 1) := by decide +kernel
abbrev rm_f_J7_fill_031fb : Room := { frames := 0, cells := 0, slots := 0, locals := 0 }
def f_J7_fill_031fb_L5 (q0 : Nat) (n0 : Nat) (K5 : (St → Option (St))) (y1 : Int) (y3 : Int) : Nat → Int → St → Option (St)
  | 0, _, _ => none
  | n9 + 1, x2, t4 =>
    cmpI x2 y3 (if x2 < y3 then (ixI x2 n0 (lt1 (pI t4 q0 x2.toNat (b8 y1)) fun t6 =>
    f_J7_fill_031fb_L5 q0 n0 K5 y1 y3 n9 (x2 + 1) t6))
    else (K5 t4))
def f_J7_fill_031fb (N : Nat) (q0 : Nat) (n0 : Nat) (a1 : Int) (t : St) : Option (St) :=
    f_J7_fill_031fb_L5 q0 n0 (fun (t7 : St) => some t7) a1 ((n0 : Nat) : Int) N 0 t
set_option maxHeartbeats 4000000 in
set_option maxRecDepth 100000 in
theorem t_f_J7_fill_031fb_L5 {p : Program} {l : Launch} {e : Env} {s : State} {m : MethodId} {args : Array Value} {below : List Frame} {meth : Method} {c : Code} {E : cE} {A : Nat → Prop} {r : Nat → Nat} {mc ms : Nat} {z : St} {q0 n0 : Nat} (hq0 : gA shH q0 0 n0) {K5 : (St → Option (St))} {y1 : Int} {y3 : Int} (X : gX p s m meth c cJ7_fill_031fb 4 none yJ7_fill_031fb args E A) (hK5 : ∀ (t9 : St), K5 t9 = some z → gP p l e rm_f_J7_fill_031fb s m args below meth c E A 4 (MQ below ((gqV E (gW E r shH) z) A) args s mc ms A) (gW E r shH) 20 [] [] t9) : ∀ (n9 : Nat) (x2 : Int) (t4 : St), f_J7_fill_031fb_L5 q0 n0 K5 y1 y3 n9 x2 t4 = some z → gP p l e rm_f_J7_fill_031fb s m args below meth c E A 4 (MQ below ((gqV E (gW E r shH) z) A) args s mc ms A) (gW E r shH) 5 [(0, .ref (r q0)), (1, iv y1), (2, iv x2), (3, iv y3)] [] t4 := by
  intro n9
  induction n9 with
  | zero => intro x2 t4 h; cases h
  | succ n9 ih =>
    intro x2 t4 h
    unfold f_J7_fill_031fb_L5 at h
    refine g_iload_n X dJ7_fill_031fb_5 2 rfl ?_
    refine g_iload_n X dJ7_fill_031fb_6 3 rfl ?_
    refine g_icmp_ge (tgt := 20) X dJ7_fill_031fb_7 (by decide) h (fun h => ?_) (fun h => ?_)
    · exact g_sub (lv' := []) [] rfl (hK5 t4 h)
    · refine g_aload_n X dJ7_fill_031fb_10 0 rfl ?_
      refine g_iload_n X dJ7_fill_031fb_11 2 rfl ?_
      refine g_iload_n X dJ7_fill_031fb_12 1 rfl ?_
      refine g_bast X hq0 dJ7_fill_031fb_13 h (fun t6 h => ?_)
      refine g_iinc (lv' := [(2, iv (x2 + 1)), (0, .ref (r q0)), (1, iv y1), (3, iv y3)]) X dJ7_fill_031fb_14 (k := 2) rfl (by decide) rfl ?_
      refine g_goto (tgt := 5) X dJ7_fill_031fb_17 (by decide) ?_
      exact g_sub (lv' := [(0, .ref (r q0)), (1, iv y1), (2, iv (x2 + 1)), (3, iv y3)]) [1, 2, 0, 3] rfl (ih (x2 + 1) t6 h)
set_option maxHeartbeats 4000000 in
set_option maxRecDepth 100000 in
theorem b_f_J7_fill_031fb {p : Program} {l : Launch} {e : Env} {s : State} {m : MethodId} {args : Array Value} {below : List Frame} {meth : Method} {c : Code} {E : cE} {A : Nat → Prop} {r : Nat → Nat} {mc ms : Nat} {z : St} {N : Nat} {q0 n0 : Nat} (hq0 : gA shH q0 0 n0) {a1 : Int} {t : St} (X : gX p s m meth c cJ7_fill_031fb 4 none yJ7_fill_031fb args E A) (h : f_J7_fill_031fb N q0 n0 a1 t = some z) : gP p l e rm_f_J7_fill_031fb s m args below meth c E A 4 (MQ below ((gqV E (gW E r shH) z) A) args s mc ms A) (gW E r shH) 0 [(0, .ref (r q0)), (1, iv a1)] [] t := by
  unfold f_J7_fill_031fb at h
  refine g_iconst X dJ7_fill_031fb_0 ?_
  refine g_istore_n (lv' := [(2, iv 0), (0, .ref (r q0)), (1, iv a1)]) X dJ7_fill_031fb_1 rfl (by decide) rfl ?_
  refine g_aload_n X dJ7_fill_031fb_2 1 rfl ?_
  refine g_alen0 X hq0 dJ7_fill_031fb_3 ?_
  refine g_istore_n (lv' := [(3, iv ((n0 : Nat) : Int)), (2, iv 0), (0, .ref (r q0)), (1, iv a1)]) X dJ7_fill_031fb_4 rfl (by decide) rfl ?_
  refine g_sub (lv' := [(0, .ref (r q0)), (1, iv a1), (2, iv 0), (3, iv ((n0 : Nat) : Int))]) [2, 3, 1, 0] rfl (t_f_J7_fill_031fb_L5 hq0 X (fun t7 h => ?_) N 0 t h)
  · exact g_vret X h dJ7_fill_031fb_20
set_option maxHeartbeats 4000000 in
set_option maxRecDepth 100000 in
theorem cp_J7_fill_031fb (l : Launch) (E : cE) (r : Nat → Nat) (N : Nat) (q0 n0 : Nat) (hq0 : gA shH q0 0 n0) (a1 : Int) (t : St) (z : St) (h : f_J7_fill_031fb N q0 n0 a1 t = some z) : cM l E yJ7_fill_031fb cJ7_fill_031fb 4 none rm_f_J7_fill_031fb [.ref (r q0), iv a1] (gW E r shH t) (gqV E (gW E r shH) z) := by
  refine g_of (w := gW E r shH) (by decide) (Nat.le_of_ble_eq_true rfl) ?_
  intro p e s m below meth c A X
  exact g_sub (lv' := [(0, .ref (r q0)), (1, iv a1)]) [0, 1] rfl (b_f_J7_fill_031fb hq0 X h)
theorem yy_J7_fill_031fb : cY yJ7_fill_031fb cJ7_fill_031fb 4 none 2 := ⟨wdK_J7_fill_031fb, wdZ_RJ7, by decide +kernel⟩
theorem dX2_whoIsIn_0 : decode cX2_whoIsIn 0 = .ok (.iload_n 2, 1) := by decide +kernel
theorem dX2_whoIsIn_1 : decode cX2_whoIsIn 1 = .ok (.bipush 8, 2) := by decide +kernel
theorem dX2_whoIsIn_3 : decode cX2_whoIsIn 3 = .ok (.imul, 1) := by decide +kernel
theorem dX2_whoIsIn_4 : decode cX2_whoIsIn 4 = .ok (.iconst 4, 1) := by decide +kernel
theorem dX2_whoIsIn_5 : decode cX2_whoIsIn 5 = .ok (.imul, 1) := by decide +kernel
theorem dX2_whoIsIn_6 : decode cX2_whoIsIn 6 = .ok (.istore 6, 2) := by decide +kernel
theorem dX2_whoIsIn_8 : decode cX2_whoIsIn 8 = .ok (.iload 6, 2) := by decide +kernel
theorem dX2_whoIsIn_10 : decode cX2_whoIsIn 10 = .ok (.iconst 4, 1) := by decide +kernel
theorem dX2_whoIsIn_11 : decode cX2_whoIsIn 11 = .ok (.iload 5, 2) := by decide +kernel
theorem dX2_whoIsIn_13 : decode cX2_whoIsIn 13 = .ok (.imul, 1) := by decide +kernel
theorem dX2_whoIsIn_14 : decode cX2_whoIsIn 14 = .ok (.iadd, 1) := by decide +kernel
theorem dX2_whoIsIn_15 : decode cX2_whoIsIn 15 = .ok (.iload_n 3, 1) := by decide +kernel
theorem dX2_whoIsIn_16 : decode cX2_whoIsIn 16 = .ok (.iconst 3, 1) := by decide +kernel
theorem dX2_whoIsIn_17 : decode cX2_whoIsIn 17 = .ok (.iand, 1) := by decide +kernel
theorem dX2_whoIsIn_18 : decode cX2_whoIsIn 18 = .ok (.iadd, 1) := by decide +kernel
theorem dX2_whoIsIn_19 : decode cX2_whoIsIn 19 = .ok (.istore 7, 2) := by decide +kernel
theorem dX2_whoIsIn_21 : decode cX2_whoIsIn 21 = .ok (.aload_n 1, 1) := by decide +kernel
theorem dX2_whoIsIn_22 : decode cX2_whoIsIn 22 = .ok (.aload_n 1, 1) := by decide +kernel
theorem dX2_whoIsIn_23 : decode cX2_whoIsIn 23 = .ok (.getfield 33, 3) := by decide +kernel
theorem dX2_whoIsIn_26 : decode cX2_whoIsIn 26 = .ok (.iload 4, 2) := by decide +kernel
theorem dX2_whoIsIn_28 : decode cX2_whoIsIn 28 = .ok (.iaload, 1) := by decide +kernel
theorem dX2_whoIsIn_29 : decode cX2_whoIsIn 29 = .ok (.aload_n 0, 1) := by decide +kernel
theorem dX2_whoIsIn_30 : decode cX2_whoIsIn 30 = .ok (.getfield 29, 3) := by decide +kernel
theorem dX2_whoIsIn_33 : decode cX2_whoIsIn 33 = .ok (.getfield 38, 3) := by decide +kernel
theorem dX2_whoIsIn_36 : decode cX2_whoIsIn 36 = .ok (.iload 6, 2) := by decide +kernel
theorem dX2_whoIsIn_38 : decode cX2_whoIsIn 38 = .ok (.iload_n 3, 1) := by decide +kernel
theorem dX2_whoIsIn_39 : decode cX2_whoIsIn 39 = .ok (.iadd, 1) := by decide +kernel
theorem dX2_whoIsIn_40 : decode cX2_whoIsIn 40 = .ok (.iaload, 1) := by decide +kernel
theorem dX2_whoIsIn_41 : decode cX2_whoIsIn 41 = .ok (.isub, 1) := by decide +kernel
theorem dX2_whoIsIn_42 : decode cX2_whoIsIn 42 = .ok (.aload_n 0, 1) := by decide +kernel
theorem dX2_whoIsIn_43 : decode cX2_whoIsIn 43 = .ok (.getfield 29, 3) := by decide +kernel
theorem dX2_whoIsIn_46 : decode cX2_whoIsIn 46 = .ok (.getfield 38, 3) := by decide +kernel
theorem dX2_whoIsIn_49 : decode cX2_whoIsIn 49 = .ok (.iload 7, 2) := by decide +kernel
theorem dX2_whoIsIn_51 : decode cX2_whoIsIn 51 = .ok (.iaload, 1) := by decide +kernel
theorem dX2_whoIsIn_52 : decode cX2_whoIsIn 52 = .ok (.iadd, 1) := by decide +kernel
theorem dX2_whoIsIn_53 : decode cX2_whoIsIn 53 = .ok (.aload_n 1, 1) := by decide +kernel
theorem dX2_whoIsIn_54 : decode cX2_whoIsIn 54 = .ok (.getfield 43, 3) := by decide +kernel
theorem dX2_whoIsIn_57 : decode cX2_whoIsIn 57 = .ok (.iload 4, 2) := by decide +kernel
theorem dX2_whoIsIn_59 : decode cX2_whoIsIn 59 = .ok (.iaload, 1) := by decide +kernel
theorem dX2_whoIsIn_60 : decode cX2_whoIsIn 60 = .ok (.aload_n 0, 1) := by decide +kernel
theorem dX2_whoIsIn_61 : decode cX2_whoIsIn 61 = .ok (.getfield 29, 3) := by decide +kernel
theorem dX2_whoIsIn_64 : decode cX2_whoIsIn 64 = .ok (.getfield 46, 3) := by decide +kernel
theorem dX2_whoIsIn_67 : decode cX2_whoIsIn 67 = .ok (.iload 6, 2) := by decide +kernel
theorem dX2_whoIsIn_69 : decode cX2_whoIsIn 69 = .ok (.iload_n 3, 1) := by decide +kernel
theorem dX2_whoIsIn_70 : decode cX2_whoIsIn 70 = .ok (.iadd, 1) := by decide +kernel
theorem dX2_whoIsIn_71 : decode cX2_whoIsIn 71 = .ok (.iaload, 1) := by decide +kernel
theorem dX2_whoIsIn_72 : decode cX2_whoIsIn 72 = .ok (.isub, 1) := by decide +kernel
theorem dX2_whoIsIn_73 : decode cX2_whoIsIn 73 = .ok (.aload_n 0, 1) := by decide +kernel
theorem dX2_whoIsIn_74 : decode cX2_whoIsIn 74 = .ok (.getfield 29, 3) := by decide +kernel
theorem dX2_whoIsIn_77 : decode cX2_whoIsIn 77 = .ok (.getfield 46, 3) := by decide +kernel
theorem dX2_whoIsIn_80 : decode cX2_whoIsIn 80 = .ok (.iload 7, 2) := by decide +kernel
theorem dX2_whoIsIn_82 : decode cX2_whoIsIn 82 = .ok (.iaload, 1) := by decide +kernel
theorem dX2_whoIsIn_83 : decode cX2_whoIsIn 83 = .ok (.iadd, 1) := by decide +kernel
theorem dX2_whoIsIn_84 : decode cX2_whoIsIn 84 = .ok (.invokevirtual 52, 3) := by decide +kernel
theorem dX2_whoIsIn_87 : decode cX2_whoIsIn 87 = .ok (.ireturn, 1) := by decide +kernel
abbrev rm_f_X2_whoIsIn : Room := { frames := 1, cells := 0, slots := 0, locals := 22 }
def f_X2_whoIsIn (N : Nat) (o1 : Nat) (a1 : Int) (a2 : Int) (a3 : Int) (a4 : Int) (t : St) : Option (Int × St) :=
    ixI a3 64 (lt1 (t.1 (390 + 10 * o1) a3.toNat) fun v1 =>
    ixI (((a1 * 8) * 4) + a2) 1280 (lt1 (t.1 351 (((a1 * 8) * 4) + a2).toNat) fun v2 =>
    ixI ((((a1 * 8) * 4) + (4 * a4)) + (a2 % 4)) 1280 (lt1 (t.1 351 ((((a1 * 8) * 4) + (4 * a4)) + (a2 % 4)).toNat) fun v3 =>
    ixI a3 64 (lt1 (t.1 (391 + 10 * o1) a3.toNat) fun v4 =>
    ixI (((a1 * 8) * 4) + a2) 1280 (lt1 (t.1 352 (((a1 * 8) * 4) + a2).toNat) fun v5 =>
    ixI ((((a1 * 8) * 4) + (4 * a4)) + (a2 % 4)) 1280 (lt1 (t.1 352 ((((a1 * 8) * 4) + (4 * a4)) + (a2 % 4)).toNat) fun v6 =>
    bdI (f_X3_whoIsAt N o1 ((v1 - v2) + v3) ((v4 - v5) + v6) t) fun v8 t7 =>
    some (v8, t7)))))))
set_option maxHeartbeats 4000000 in
set_option maxRecDepth 100000 in
theorem b_f_X2_whoIsIn {p : Program} {l : Launch} {e : Env} {s : State} {m : MethodId} {args : Array Value} {below : List Frame} {meth : Method} {c : Code} {E : cE} {A : Nat → Prop} {r : Nat → Nat} {mc ms : Nat} {z : Int × St} {N : Nat} {o1 : Nat} (ho1 : o1 < 2) {a1 : Int} {a2 : Int} {a3 : Int} {a4 : Int} {t : St} (X : gX p s m meth c cX2_whoIsIn 8 (some .int) yX2_whoIsIn args E A) (h : f_X2_whoIsIn N o1 a1 a2 a3 a4 t = some z) : gP p l e rm_f_X2_whoIsIn s m args below meth c E A 8 (MQ below ((gqI E (gW E r shH) z) A) args s mc ms A) (gW E r shH) 0 [(0, .ref (r 311)), (1, .ref (r (305 + o1))), (2, iv a1), (3, iv a2), (4, iv a3), (5, iv a4)] [] t := by
  unfold f_X2_whoIsIn at h
  refine g_iload_n X dX2_whoIsIn_0 2 rfl ?_
  refine g_bipush X dX2_whoIsIn_1 (by decide) ?_
  refine g_imul X dX2_whoIsIn_3 ?_
  refine g_iconst X dX2_whoIsIn_4 ?_
  refine g_imul X dX2_whoIsIn_5 ?_
  refine g_istore (lv' := [(6, iv ((a1 * 8) * 4)), (0, .ref (r 311)), (1, .ref (r (305 + o1))), (2, iv a1), (3, iv a2), (4, iv a3), (5, iv a4)]) X dX2_whoIsIn_6 (by decide) rfl ?_
  refine g_iload X dX2_whoIsIn_8 0 rfl ?_
  refine g_iconst X dX2_whoIsIn_10 ?_
  refine g_iload X dX2_whoIsIn_11 6 rfl ?_
  refine g_imul X dX2_whoIsIn_13 ?_
  refine g_iadd X dX2_whoIsIn_14 ?_
  refine g_iload_n X dX2_whoIsIn_15 4 rfl ?_
  refine g_iconst X dX2_whoIsIn_16 ?_
  refine g_mask X 2 (by decide) (M := 4) (by decide) (by decide) dX2_whoIsIn_17 ?_
  refine g_iadd X dX2_whoIsIn_18 ?_
  refine g_istore (lv' := [(7, iv ((((a1 * 8) * 4) + (4 * a4)) + (a2 % 4))), (6, iv ((a1 * 8) * 4)), (0, .ref (r 311)), (1, .ref (r (305 + o1))), (2, iv a1), (3, iv a2), (4, iv a3), (5, iv a4)]) X dX2_whoIsIn_19 (by decide) rfl ?_
  refine g_aload_n X dX2_whoIsIn_21 3 rfl ?_
  refine g_aload_n X dX2_whoIsIn_22 3 rfl ?_
  refine g_getR X (fH_X2_33_o (o := o1) ho1) rfl dX2_whoIsIn_23 ?_
  refine g_iload X dX2_whoIsIn_26 6 rfl ?_
  refine g_iald X (aF_0 (o := o1) ho1) dX2_whoIsIn_28 h (fun v1 h => ?_)
  refine g_aload_n X dX2_whoIsIn_29 2 rfl ?_
  refine g_getR X fH_X2_29_311 rfl dX2_whoIsIn_30 ?_
  refine g_getR X fH_X2_38_302 rfl dX2_whoIsIn_33 ?_
  refine g_iload X dX2_whoIsIn_36 1 rfl ?_
  refine g_iload_n X dX2_whoIsIn_38 5 rfl ?_
  refine g_iadd X dX2_whoIsIn_39 ?_
  refine g_iald X aH_351 dX2_whoIsIn_40 h (fun v2 h => ?_)
  refine g_isub X dX2_whoIsIn_41 ?_
  refine g_aload_n X dX2_whoIsIn_42 2 rfl ?_
  refine g_getR X fH_X2_29_311 rfl dX2_whoIsIn_43 ?_
  refine g_getR X fH_X2_38_302 rfl dX2_whoIsIn_46 ?_
  refine g_iload X dX2_whoIsIn_49 0 rfl ?_
  refine g_iald X aH_351 dX2_whoIsIn_51 h (fun v3 h => ?_)
  refine g_iadd X dX2_whoIsIn_52 ?_
  refine g_aload_n X dX2_whoIsIn_53 3 rfl ?_
  refine g_getR X (fH_X2_43_o (o := o1) ho1) rfl dX2_whoIsIn_54 ?_
  refine g_iload X dX2_whoIsIn_57 6 rfl ?_
  refine g_iald X (aF_1 (o := o1) ho1) dX2_whoIsIn_59 h (fun v4 h => ?_)
  refine g_aload_n X dX2_whoIsIn_60 2 rfl ?_
  refine g_getR X fH_X2_29_311 rfl dX2_whoIsIn_61 ?_
  refine g_getR X fH_X2_46_302 rfl dX2_whoIsIn_64 ?_
  refine g_iload X dX2_whoIsIn_67 1 rfl ?_
  refine g_iload_n X dX2_whoIsIn_69 5 rfl ?_
  refine g_iadd X dX2_whoIsIn_70 ?_
  refine g_iald X aH_352 dX2_whoIsIn_71 h (fun v5 h => ?_)
  refine g_isub X dX2_whoIsIn_72 ?_
  refine g_aload_n X dX2_whoIsIn_73 2 rfl ?_
  refine g_getR X fH_X2_29_311 rfl dX2_whoIsIn_74 ?_
  refine g_getR X fH_X2_46_302 rfl dX2_whoIsIn_77 ?_
  refine g_iload X dX2_whoIsIn_80 0 rfl ?_
  refine g_iald X aH_352 dX2_whoIsIn_82 h (fun v6 h => ?_)
  refine g_iadd X dX2_whoIsIn_83 ?_
  refine g_callOI (rest := []) X (fun u9 h9 => cp_X3_whoIsAt l E r N o1 ho1 ((v1 - v2) + v3) ((v4 - v5) + v6) t u9 h9) yy_X3_whoIsAt yi_X3_whoIsAt wdM_RX2_52 (oX3 (o := o1) ho1) rfl rfl rfl (Nat.le_of_ble_eq_true rfl) dX2_whoIsIn_84 ⟨by decide, by decide⟩ ⟨rfl, rfl⟩ h (fun v8 t7 h => ?_)
  exact g_iret X h dX2_whoIsIn_87
set_option maxHeartbeats 4000000 in
set_option maxRecDepth 100000 in
theorem cp_X2_whoIsIn (l : Launch) (E : cE) (r : Nat → Nat) (N : Nat) (o1 : Nat) (ho1 : o1 < 2) (a1 : Int) (a2 : Int) (a3 : Int) (a4 : Int) (t : St) (z : Int × St) (h : f_X2_whoIsIn N o1 a1 a2 a3 a4 t = some z) : cM l E yX2_whoIsIn cX2_whoIsIn 8 (some .int) rm_f_X2_whoIsIn [.ref (r 311), .ref (r (305 + o1)), iv a1, iv a2, iv a3, iv a4] (gW E r shH t) (gqI E (gW E r shH) z) := by
  refine g_of (w := gW E r shH) (by decide) (Nat.le_of_ble_eq_true rfl) ?_
  intro p e s m below meth c A X
  exact g_sub (lv' := [(0, .ref (r 311)), (1, .ref (r (305 + o1))), (2, iv a1), (3, iv a2), (4, iv a3), (5, iv a4)]) [0, 1, 2, 3, 4, 5] rfl (b_f_X2_whoIsIn ho1 X h)
theorem yy_X2_whoIsIn : cY yX2_whoIsIn cX2_whoIsIn 8 (some .int) 5 := ⟨wdK_X2_whoIsIn, wdZ_RX2, by decide +kernel⟩
theorem yi_X2_whoIsIn : cYi yX2_whoIsIn := ⟨wdN_X2_whoIsIn, wdS_X2_whoIsIn⟩
