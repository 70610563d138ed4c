theorem dX11_feed_0 : decode cX11_feed 0 = .ok (.aload_n 0, 1) := by decide +kernel
theorem dX11_feed_1 : decode cX11_feed 1 = .ok (.getfield 10, 3) := by decide +kernel
theorem dX11_feed_4 : decode cX11_feed 4 = .ok (.bipush 20, 2) := by decide +kernel
theorem dX11_feed_6 : decode cX11_feed 6 = .ok (.invokevirtual 101, 3) := by decide +kernel
theorem dX11_feed_9 : decode cX11_feed 9 = .ok (.ifCond .ne 5, 3) := by decide +kernel
theorem dX11_feed_12 : decode cX11_feed 12 = .ok (.iconst 0, 1) := by decide +kernel
theorem dX11_feed_13 : decode cX11_feed 13 = .ok (.ireturn, 1) := by decide +kernel
theorem dX11_feed_14 : decode cX11_feed 14 = .ok (.aload_n 0, 1) := by decide +kernel
theorem dX11_feed_15 : decode cX11_feed 15 = .ok (.getfield 10, 3) := by decide +kernel
theorem dX11_feed_18 : decode cX11_feed 18 = .ok (.iload_n 1, 1) := by decide +kernel
theorem dX11_feed_19 : decode cX11_feed 19 = .ok (.invokevirtual 105, 3) := by decide +kernel
theorem dX11_feed_22 : decode cX11_feed 22 = .ok (.aload_n 0, 1) := by decide +kernel
theorem dX11_feed_23 : decode cX11_feed 23 = .ok (.getfield 10, 3) := by decide +kernel
theorem dX11_feed_26 : decode cX11_feed 26 = .ok (.iload_n 2, 1) := by decide +kernel
theorem dX11_feed_27 : decode cX11_feed 27 = .ok (.invokevirtual 105, 3) := by decide +kernel
theorem dX11_feed_30 : decode cX11_feed 30 = .ok (.aload_n 0, 1) := by decide +kernel
theorem dX11_feed_31 : decode cX11_feed 31 = .ok (.getfield 10, 3) := by decide +kernel
theorem dX11_feed_34 : decode cX11_feed 34 = .ok (.iload_n 3, 1) := by decide +kernel
theorem dX11_feed_35 : decode cX11_feed 35 = .ok (.invokevirtual 105, 3) := by decide +kernel
theorem dX11_feed_38 : decode cX11_feed 38 = .ok (.aload_n 0, 1) := by decide +kernel
theorem dX11_feed_39 : decode cX11_feed 39 = .ok (.getfield 10, 3) := by decide +kernel
theorem dX11_feed_42 : decode cX11_feed 42 = .ok (.iload 4, 2) := by decide +kernel
theorem dX11_feed_44 : decode cX11_feed 44 = .ok (.invokevirtual 105, 3) := by decide +kernel
theorem dX11_feed_47 : decode cX11_feed 47 = .ok (.aload_n 0, 1) := by decide +kernel
theorem dX11_feed_48 : decode cX11_feed 48 = .ok (.getfield 10, 3) := by decide +kernel
theorem dX11_feed_51 : decode cX11_feed 51 = .ok (.iload 5, 2) := by decide +kernel
theorem dX11_feed_53 : decode cX11_feed 53 = .ok (.invokevirtual 105, 3) := by decide +kernel
theorem dX11_feed_56 : decode cX11_feed 56 = .ok (.iconst 1, 1) := by decide +kernel
theorem dX11_feed_57 : decode cX11_feed 57 = .ok (.ireturn, 1) := by decide +kernel
abbrev rm_f_X11_feed : Room := { frames := 1, cells := 0, slots := 0, locals := 22 }
def f_X11_feed (N : Nat) (a0 : Int) (a1 : Int) (a2 : Int) (a3 : Int) (a4 : Int) (t : St) : Option (Int × St) :=
    bdI (f_X10_hasRoom N 20 t) fun v2 t1 =>
    cmpI v2 0 (if v2 = 0 then (boI 0 (some (0, t1)))
    else (bdV (f_X10_append N a0 t1) fun t3 =>
    bdV (f_X10_append N a1 t3) fun t4 =>
    bdV (f_X10_append N a2 t4) fun t5 =>
    bdV (f_X10_append N a3 t5) fun t6 =>
    bdV (f_X10_append N a4 t6) fun t7 =>
    boI 1 (some (1, t7))))
set_option maxHeartbeats 4000000 in
set_option maxRecDepth 100000 in
theorem b_f_X11_feed {p : Program} {l : Launch} {e : Env} {s : State} {m : MethodId} {args : Array Value} {below : List Frame} {meth : Method} {c : Code} {E : cE} {A : Nat → Prop} {r : Nat → Nat} {mc ms : Nat} {z : Int × St} {N : Nat} {a0 : Int} {a1 : Int} {a2 : Int} {a3 : Int} {a4 : Int} {t : St} (X : gX p s m meth c cX11_feed 6 (some .boolean) yX11_feed args E A) (h : f_X11_feed N a0 a1 a2 a3 a4 t = some z) : gP p l e rm_f_X11_feed s m args below meth c E A 6 (MQ below ((gqI E (gW E r shH) z) A) args s mc ms A) (gW E r shH) 0 [(0, .ref (r 300)), (1, iv a0), (2, iv a1), (3, iv a2), (4, iv a3), (5, iv a4)] [] t := by
  unfold f_X11_feed at h
  refine g_aload_n X dX11_feed_0 0 rfl ?_
  refine g_getR X fH_X11_10_300 rfl dX11_feed_1 ?_
  refine g_bipush X dX11_feed_4 (by decide) ?_
  refine g_callOI (rest := []) X (fun u9 h9 => cp_X10_hasRoom l E r N 20 t u9 h9) yy_X10_hasRoom yi_X10_hasRoom wdM_RX11_101 ⟨_, _, oH_301⟩ rfl rfl rfl (Nat.le_of_ble_eq_true rfl) dX11_feed_6 ⟨by decide, by decide⟩ ⟨rfl, rfl⟩ h (fun v2 t1 h => ?_)
  refine g_if_ne (tgt := 14) X dX11_feed_9 (by decide) h (fun h => ?_) (fun h => ?_)
  · refine g_aload_n X dX11_feed_14 0 rfl ?_
    refine g_getR X fH_X11_10_300 rfl dX11_feed_15 ?_
    refine g_iload_n X dX11_feed_18 1 rfl ?_
    refine g_callOV (rest := []) X (fun u9 h9 => cp_X10_append l E r N a0 t1 u9 h9) yy_X10_append yi_X10_append wdM_RX11_105 ⟨_, _, oH_301⟩ rfl rfl rfl (Nat.le_of_ble_eq_true rfl) dX11_feed_19 ⟨by decide, by decide⟩ ⟨rfl, rfl⟩ h (fun t3 h => ?_)
    refine g_aload_n X dX11_feed_22 0 rfl ?_
    refine g_getR X fH_X11_10_300 rfl dX11_feed_23 ?_
    refine g_iload_n X dX11_feed_26 2 rfl ?_
    refine g_callOV (rest := []) X (fun u9 h9 => cp_X10_append l E r N a1 t3 u9 h9) yy_X10_append yi_X10_append wdM_RX11_105 ⟨_, _, oH_301⟩ rfl rfl rfl (Nat.le_of_ble_eq_true rfl) dX11_feed_27 ⟨by decide, by decide⟩ ⟨rfl, rfl⟩ h (fun t4 h => ?_)
    refine g_aload_n X dX11_feed_30 0 rfl ?_
    refine g_getR X fH_X11_10_300 rfl dX11_feed_31 ?_
    refine g_iload_n X dX11_feed_34 3 rfl ?_
    refine g_callOV (rest := []) X (fun u9 h9 => cp_X10_append l E r N a2 t4 u9 h9) yy_X10_append yi_X10_append wdM_RX11_105 ⟨_, _, oH_301⟩ rfl rfl rfl (Nat.le_of_ble_eq_true rfl) dX11_feed_35 ⟨by decide, by decide⟩ ⟨rfl, rfl⟩ h (fun t5 h => ?_)
    refine g_aload_n X dX11_feed_38 0 rfl ?_
    refine g_getR X fH_X11_10_300 rfl dX11_feed_39 ?_
    refine g_iload X dX11_feed_42 4 rfl ?_
    refine g_callOV (rest := []) X (fun u9 h9 => cp_X10_append l E r N a3 t5 u9 h9) yy_X10_append yi_X10_append wdM_RX11_105 ⟨_, _, oH_301⟩ rfl rfl rfl (Nat.le_of_ble_eq_true rfl) dX11_feed_44 ⟨by decide, by decide⟩ ⟨rfl, rfl⟩ h (fun t6 h => ?_)
    refine g_aload_n X dX11_feed_47 0 rfl ?_
    refine g_getR X fH_X11_10_300 rfl dX11_feed_48 ?_
    refine g_iload X dX11_feed_51 5 rfl ?_
    refine g_callOV (rest := []) X (fun u9 h9 => cp_X10_append l E r N a4 t6 u9 h9) yy_X10_append yi_X10_append wdM_RX11_105 ⟨_, _, oH_301⟩ rfl rfl rfl (Nat.le_of_ble_eq_true rfl) dX11_feed_53 ⟨by decide, by decide⟩ ⟨rfl, rfl⟩ h (fun t7 h => ?_)
    refine g_iconst X dX11_feed_56 ?_
    exact g_zret X h dX11_feed_57
  · refine g_iconst X dX11_feed_12 ?_
    exact g_zret X h dX11_feed_13
set_option maxHeartbeats 4000000 in
set_option maxRecDepth 100000 in
theorem cp_X11_feed (l : Launch) (E : cE) (r : Nat → Nat) (N : Nat) (a0 : Int) (a1 : Int) (a2 : Int) (a3 : Int) (a4 : Int) (t : St) (z : Int × St) (h : f_X11_feed N a0 a1 a2 a3 a4 t = some z) : cM l E yX11_feed cX11_feed 6 (some .boolean) rm_f_X11_feed [.ref (r 300), iv a0, iv a1, iv a2, iv a3, iv a4] (gW E r shH t) (gqI E (gW E r shH) z) := by
  refine g_of (w := gW E r shH) (by decide) (Nat.le_of_ble_eq_true rfl) ?_
  intro p e s m below meth c A X
  exact g_sub (lv' := [(0, .ref (r 300)), (1, iv a0), (2, iv a1), (3, iv a2), (4, iv a3), (5, iv a4)]) [0, 1, 2, 3, 4, 5] rfl (b_f_X11_feed X h)
theorem yy_X11_feed : cY yX11_feed cX11_feed 6 (some .boolean) 5 := ⟨wdK_X11_feed, wdZ_RX11, by decide +kernel⟩
theorem yi_X11_feed : cYi yX11_feed := ⟨wdN_X11_feed, wdS_X11_feed⟩
theorem dX11_end_0 : decode cX11_end 0 = .ok (.aload_n 0, 1) := by decide +kernel
theorem dX11_end_1 : decode cX11_end 1 = .ok (.getfield 10, 3) := by decide +kernel
theorem dX11_end_4 : decode cX11_end 4 = .ok (.iload_n 1, 1) := by decide +kernel
theorem dX11_end_5 : decode cX11_end 5 = .ok (.invokevirtual 109, 3) := by decide +kernel
theorem dX11_end_8 : decode cX11_end 8 = .ok (.ireturn, 1) := by decide +kernel
abbrev rm_f_X11_end : Room := { frames := 1, cells := 0, slots := 0, locals := 21 }
def f_X11_end (N : Nat) (a0 : Int) (t : St) : Option (Int × St) :=
    bdI (f_X10_cut N a0 t) fun v2 t1 =>
    boI v2 (some (v2, t1))
set_option maxHeartbeats 4000000 in
set_option maxRecDepth 100000 in
theorem b_f_X11_end {p : Program} {l : Launch} {e : Env} {s : State} {m : MethodId} {args : Array Value} {below : List Frame} {meth : Method} {c : Code} {E : cE} {A : Nat → Prop} {r : Nat → Nat} {mc ms : Nat} {z : Int × St} {N : Nat} {a0 : Int} {t : St} (X : gX p s m meth c cX11_end 2 (some .boolean) yX11_end args E A) (h : f_X11_end N a0 t = some z) : gP p l e rm_f_X11_end s m args below meth c E A 2 (MQ below ((gqI E (gW E r shH) z) A) args s mc ms A) (gW E r shH) 0 [(0, .ref (r 300)), (1, iv a0)] [] t := by
  unfold f_X11_end at h
  refine g_aload_n X dX11_end_0 0 rfl ?_
  refine g_getR X fH_X11_10_300 rfl dX11_end_1 ?_
  refine g_iload_n X dX11_end_4 1 rfl ?_
  refine g_callOI (rest := []) X (fun u9 h9 => cp_X10_cut l E r N a0 t u9 h9) yy_X10_cut yi_X10_cut wdM_RX11_109 ⟨_, _, oH_301⟩ rfl rfl rfl (Nat.le_of_ble_eq_true rfl) dX11_end_5 ⟨by decide, by decide⟩ ⟨rfl, rfl⟩ h (fun v2 t1 h => ?_)
  exact g_zret X h dX11_end_8
set_option maxHeartbeats 4000000 in
set_option maxRecDepth 100000 in
theorem cp_X11_end (l : Launch) (E : cE) (r : Nat → Nat) (N : Nat) (a0 : Int) (t : St) (z : Int × St) (h : f_X11_end N a0 t = some z) : cM l E yX11_end cX11_end 2 (some .boolean) rm_f_X11_end [.ref (r 300), iv a0] (gW E r shH t) (gqI E (gW E r shH) z) := by
  refine g_of (w := gW E r shH) (by decide) (Nat.le_of_ble_eq_true rfl) ?_
  intro p e s m below meth c A X
  exact g_sub (lv' := [(0, .ref (r 300)), (1, iv a0)]) [0, 1] rfl (b_f_X11_end X h)
theorem yy_X11_end : cY yX11_end cX11_end 2 (some .boolean) 1 := ⟨wdK_X11_end, wdZ_RX11, by decide +kernel⟩
theorem yi_X11_end : cYi yX11_end := ⟨wdN_X11_end, wdS_X11_end⟩
theorem dX11_load_0 : decode cX11_load 0 = .ok (.aload_n 0, 1) := by decide +kernel
theorem dX11_load_1 : decode cX11_load 1 = .ok (.getfield 10, 3) := by decide +kernel
theorem dX11_load_4 : decode cX11_load 4 = .ok (.invokevirtual 112, 3) := by decide +kernel
theorem dX11_load_7 : decode cX11_load 7 = .ok (.aload_n 0, 1) := by decide +kernel
theorem dX11_load_8 : decode cX11_load 8 = .ok (.getfield 28, 3) := by decide +kernel
theorem dX11_load_11 : decode cX11_load 11 = .ok (.invokevirtual 115, 3) := by decide +kernel
theorem dX11_load_14 : decode cX11_load 14 = .ok (.aload_n 0, 1) := by decide +kernel
theorem dX11_load_15 : decode cX11_load 15 = .ok (.aload_n 0, 1) := by decide +kernel
theorem dX11_load_16 : decode cX11_load 16 = .ok (.getfield 28, 3) := by decide +kernel
theorem dX11_load_19 : decode cX11_load 19 = .ok (.getfield 118, 3) := by decide +kernel
theorem dX11_load_22 : decode cX11_load 22 = .ok (.putfield 121, 3) := by decide +kernel
theorem dX11_load_25 : decode cX11_load 25 = .ok (.aload_n 0, 1) := by decide +kernel
theorem dX11_load_26 : decode cX11_load 26 = .ok (.getfield 121, 3) := by decide +kernel
theorem dX11_load_29 : decode cX11_load 29 = .ok (.ifCond .ne 7, 3) := by decide +kernel
theorem dX11_load_32 : decode cX11_load 32 = .ok (.iconst 0, 1) := by decide +kernel
theorem dX11_load_33 : decode cX11_load 33 = .ok (.goto 13, 3) := by decide +kernel
theorem dX11_load_36 : decode cX11_load 36 = .ok (.bipush (-2), 2) := by decide +kernel
theorem dX11_load_38 : decode cX11_load 38 = .ok (.aload_n 0, 1) := by decide +kernel
theorem dX11_load_39 : decode cX11_load 39 = .ok (.getfield 28, 3) := by decide +kernel
theorem dX11_load_42 : decode cX11_load 42 = .ok (.invokevirtual 124, 3) := by decide +kernel
theorem dX11_load_45 : decode cX11_load 45 = .ok (.isub, 1) := by decide +kernel
theorem dX11_load_46 : decode cX11_load 46 = .ok (.ireturn, 1) := by decide +kernel
abbrev rm_f_X11_load : Room := { frames := 407, cells := 0, slots := 0, locals := 24153 }
def f_X11_load (N : Nat) (t : St) : Option (Int × St) :=
    bdV (f_X10_read N t) fun t1 =>
    bdV (f_X7_readBook N t1) fun t2 =>
    lt1 (t2.1 303 5) fun v3 =>
    lt1 (pI t2 300 13 v3) fun t4 =>
    lt1 (t4.1 300 13) fun v5 =>
    cmpI v5 0 (if v5 = 0 then (some (0, t4))
    else (bdI (f_X7_wrongPlace N t4) fun v7 t6 =>
    some ((-2) - v7, t6)))
set_option maxHeartbeats 4000000 in
set_option maxRecDepth 100000 in
theorem b_f_X11_load {p : Program} {l : Launch} {e : Env} {s : State} {m : MethodId} {args : Array Value} {below : List Frame} {meth : Method} {c : Code} {E : cE} {A : Nat → Prop} {r : Nat → Nat} {mc ms : Nat} {z : Int × St} {N : Nat} {t : St} (X : gX p s m meth c cX11_load 1 (some .int) yX11_load args E A) (h : f_X11_load N t = some z) : gP p l e rm_f_X11_load s m args below meth c E A 1 (MQ below ((gqI E (gW E r shH) z) A) args s mc ms A) (gW E r shH) 0 [(0, .ref (r 300))] [] t := by
  unfold f_X11_load at h
  refine g_aload_n X dX11_load_0 0 rfl ?_
  refine g_getR X fH_X11_10_300 rfl dX11_load_1 ?_
  refine g_callOV (rest := []) X (fun u9 h9 => cp_X10_read l E r N t u9 h9) yy_X10_read yi_X10_read wdM_RX11_112 ⟨_, _, oH_301⟩ rfl rfl rfl (Nat.le_of_ble_eq_true rfl) dX11_load_4 ⟨by decide, by decide⟩ ⟨rfl, rfl⟩ h (fun t1 h => ?_)
  refine g_aload_n X dX11_load_7 0 rfl ?_
  refine g_getR X fH_X11_28_300 rfl dX11_load_8 ?_
  refine g_callOV (rest := []) X (fun u9 h9 => cp_X7_readBook l E r N t1 u9 h9) yy_X7_readBook yi_X7_readBook wdM_RX11_115 ⟨_, _, oH_303⟩ rfl rfl rfl (Nat.le_of_ble_eq_true rfl) dX11_load_11 ⟨by decide, by decide⟩ ⟨rfl, rfl⟩ h (fun t2 h => ?_)
  refine g_aload_n X dX11_load_14 0 rfl ?_
  refine g_aload_n X dX11_load_15 0 rfl ?_
  refine g_getR X fH_X11_28_300 rfl dX11_load_16 ?_
  refine g_getI X fH_X11_118_303 rfl dX11_load_19 h (fun v3 h => ?_)
  refine g_putI X fH_X11_121_300w rfl dX11_load_22 h (fun t4 h => ?_)
  refine g_aload_n X dX11_load_25 0 rfl ?_
  refine g_getI X fH_X11_121_300 rfl dX11_load_26 h (fun v5 h => ?_)
  refine g_if_ne (tgt := 36) X dX11_load_29 (by decide) h (fun h => ?_) (fun h => ?_)
  · refine g_bipush X dX11_load_36 (by decide) ?_
    refine g_aload_n X dX11_load_38 0 rfl ?_
    refine g_getR X fH_X11_28_300 rfl dX11_load_39 ?_
    refine g_callOI (rest := [iv (-2)]) X (fun u9 h9 => cp_X7_wrongPlace l E r N t4 u9 h9) yy_X7_wrongPlace yi_X7_wrongPlace wdM_RX11_124 ⟨_, _, oH_303⟩ rfl rfl rfl (Nat.le_of_ble_eq_true rfl) dX11_load_42 ⟨by decide, by decide⟩ ⟨rfl, rfl⟩ h (fun v7 t6 h => ?_)
    refine g_isub X dX11_load_45 ?_
    exact g_iret X h dX11_load_46
  · refine g_iconst X dX11_load_32 ?_
    refine g_goto (tgt := 46) X dX11_load_33 (by decide) ?_
    exact g_iret X h dX11_load_46
set_option maxHeartbeats 4000000 in
set_option maxRecDepth 100000 in
theorem cp_X11_load (l : Launch) (E : cE) (r : Nat → Nat) (N : Nat) (t : St) (z : Int × St) (h : f_X11_load N t = some z) : cM l E yX11_load cX11_load 1 (some .int) rm_f_X11_load [.ref (r 300)] (gW E r shH t) (gqI E (gW E r shH) z) := by
  refine g_of (w := gW E r shH) (by decide) (Nat.le_of_ble_eq_true rfl) ?_
  intro p e s m below meth c A X
  exact g_sub (lv' := [(0, .ref (r 300))]) [0] rfl (b_f_X11_load X h)
theorem yy_X11_load : cY yX11_load cX11_load 1 (some .int) 0 := ⟨wdK_X11_load, wdZ_RX11, by decide +kernel⟩
theorem yi_X11_load : cYi yX11_load := ⟨wdN_X11_load, wdS_X11_load⟩
theorem dX11_noteFailure_0 : decode cX11_noteFailure 0 = .ok (.aload_n 0, 1) := by decide +kernel
theorem dX11_noteFailure_1 : decode cX11_noteFailure 1 = .ok (.aload_n 0, 1) := by decide +kernel
theorem dX11_noteFailure_2 : decode cX11_noteFailure 2 = .ok (.getfield 37, 3) := by decide +kernel
theorem dX11_noteFailure_5 : decode cX11_noteFailure 5 = .ok (.getfield 297, 3) := by decide +kernel
theorem dX11_noteFailure_8 : decode cX11_noteFailure 8 = .ok (.putfield 83, 3) := by decide +kernel
theorem dX11_noteFailure_11 : decode cX11_noteFailure 11 = .ok (.aload_n 0, 1) := by decide +kernel
theorem dX11_noteFailure_12 : decode cX11_noteFailure 12 = .ok (.aload_n 0, 1) := by decide +kernel
theorem dX11_noteFailure_13 : decode cX11_noteFailure 13 = .ok (.getfield 37, 3) := by decide +kernel
theorem dX11_noteFailure_16 : decode cX11_noteFailure 16 = .ok (.getfield 300, 3) := by decide +kernel
theorem dX11_noteFailure_19 : decode cX11_noteFailure 19 = .ok (.putfield 87, 3) := by decide +kernel
theorem dX11_noteFailure_22 : decode cX11_noteFailure 22 = .ok (.aload_n 0, 1) := by decide +kernel
theorem dX11_noteFailure_23 : decode cX11_noteFailure 23 = .ok (.aload_n 0, 1) := by decide +kernel
theorem dX11_noteFailure_24 : decode cX11_noteFailure 24 = .ok (.getfield 37, 3) := by decide +kernel
theorem dX11_noteFailure_27 : decode cX11_noteFailure 27 = .ok (.getfield 303, 3) := by decide +kernel
theorem dX11_noteFailure_30 : decode cX11_noteFailure 30 = .ok (.putfield 90, 3) := by decide +kernel
theorem dX11_noteFailure_33 : decode cX11_noteFailure 33 = .ok (.return_, 1) := by decide +kernel
abbrev rm_f_X11_noteFailure : Room := { frames := 0, cells := 0, slots := 0, locals := 0 }
def f_X11_noteFailure (N : Nat) (t : St) : Option (St) :=
    lt1 (t.1 304 14) fun v1 =>
    lt1 (pI t 300 14 v1) fun t2 =>
    lt1 (t2.1 304 15) fun v3 =>
    lt1 (pI t2 300 15 v3) fun t4 =>
    lt1 (t4.1 304 16) fun v5 =>
    lt1 (pI t4 300 16 v5) fun t6 =>
    some t6
set_option maxHeartbeats 4000000 in
set_option maxRecDepth 100000 in
theorem b_f_X11_noteFailure {p : Program} {l : Launch} {e : Env} {s : State} {m : MethodId} {args : Array Value} {below : List Frame} {meth : Method} {c : Code} {E : cE} {A : Nat → Prop} {r : Nat → Nat} {mc ms : Nat} {z : St} {N : Nat} {t : St} (X : gX p s m meth c cX11_noteFailure 1 none yX11_noteFailure args E A) (h : f_X11_noteFailure N t = some z) : gP p l e rm_f_X11_noteFailure s m args below meth c E A 1 (MQ below ((gqV E (gW E r shH) z) A) args s mc ms A) (gW E r shH) 0 [(0, .ref (r 300))] [] t := by
  unfold f_X11_noteFailure at h
  refine g_aload_n X dX11_noteFailure_0 0 rfl ?_
  refine g_aload_n X dX11_noteFailure_1 0 rfl ?_
  refine g_getR X fH_X11_37_300 rfl dX11_noteFailure_2 ?_
  refine g_getI X fH_X11_297_304 rfl dX11_noteFailure_5 h (fun v1 h => ?_)
  refine g_putI X fH_X11_83_300w rfl dX11_noteFailure_8 h (fun t2 h => ?_)
  refine g_aload_n X dX11_noteFailure_11 0 rfl ?_
  refine g_aload_n X dX11_noteFailure_12 0 rfl ?_
  refine g_getR X fH_X11_37_300 rfl dX11_noteFailure_13 ?_
  refine g_getI X fH_X11_300_304 rfl dX11_noteFailure_16 h (fun v3 h => ?_)
  refine g_putI X fH_X11_87_300w rfl dX11_noteFailure_19 h (fun t4 h => ?_)
  refine g_aload_n X dX11_noteFailure_22 0 rfl ?_
  refine g_aload_n X dX11_noteFailure_23 0 rfl ?_
  refine g_getR X fH_X11_37_300 rfl dX11_noteFailure_24 ?_
  refine g_getI X fH_X11_303_304 rfl dX11_noteFailure_27 h (fun v5 h => ?_)
  refine g_putI X fH_X11_90_300w rfl dX11_noteFailure_30 h (fun t6 h => ?_)
  exact g_vret X h dX11_noteFailure_33
set_option maxHeartbeats 4000000 in
set_option maxRecDepth 100000 in
theorem cp_X11_noteFailure (l : Launch) (E : cE) (r : Nat → Nat) (N : Nat) (t : St) (z : St) (h : f_X11_noteFailure N t = some z) : cM l E yX11_noteFailure cX11_noteFailure 1 none rm_f_X11_noteFailure [.ref (r 300)] (gW E r shH t) (gqV E (gW E r shH) z) := by
  refine g_of (w := gW E r shH) (by decide) (Nat.le_of_ble_eq_true rfl) ?_
  intro p e s m below meth c A X
  exact g_sub (lv' := [(0, .ref (r 300))]) [0] rfl (b_f_X11_noteFailure X h)
theorem yy_X11_noteFailure : cY yX11_noteFailure cX11_noteFailure 1 none 0 := ⟨wdK_X11_noteFailure, wdZ_RX11, by decide +kernel⟩
theorem yi_X11_noteFailure : cYi yX11_noteFailure := ⟨wdN_X11_noteFailure, wdS_X11_noteFailure⟩
theorem dX11_countStep_0 : decode cX11_countStep 0 = .ok (.aload_n 0, 1) := by decide +kernel
theorem dX11_countStep_1 : decode cX11_countStep 1 = .ok (.getfield 66, 3) := by decide +kernel
theorem dX11_countStep_4 : decode cX11_countStep 4 = .ok (.invokevirtual 293, 3) := by decide +kernel
theorem dX11_countStep_7 : decode cX11_countStep 7 = .ok (.aload_n 0, 1) := by decide +kernel
theorem dX11_countStep_8 : decode cX11_countStep 8 = .ok (.dup, 1) := by decide +kernel
theorem dX11_countStep_9 : decode cX11_countStep 9 = .ok (.getfield 158, 3) := by decide +kernel
theorem dX11_countStep_12 : decode cX11_countStep 12 = .ok (.aload_n 0, 1) := by decide +kernel
theorem dX11_countStep_13 : decode cX11_countStep 13 = .ok (.getfield 37, 3) := by decide +kernel
theorem dX11_countStep_16 : decode cX11_countStep 16 = .ok (.getfield 296, 3) := by decide +kernel
theorem dX11_countStep_19 : decode cX11_countStep 19 = .ok (.iadd, 1) := by decide +kernel
theorem dX11_countStep_20 : decode cX11_countStep 20 = .ok (.putfield 158, 3) := by decide +kernel
theorem dX11_countStep_23 : decode cX11_countStep 23 = .ok (.aload_n 0, 1) := by decide +kernel
theorem dX11_countStep_24 : decode cX11_countStep 24 = .ok (.dup, 1) := by decide +kernel
theorem dX11_countStep_25 : decode cX11_countStep 25 = .ok (.getfield 161, 3) := by decide +kernel
theorem dX11_countStep_28 : decode cX11_countStep 28 = .ok (.iconst 1, 1) := by decide +kernel
theorem dX11_countStep_29 : decode cX11_countStep 29 = .ok (.iadd, 1) := by decide +kernel
theorem dX11_countStep_30 : decode cX11_countStep 30 = .ok (.putfield 161, 3) := by decide +kernel
theorem dX11_countStep_33 : decode cX11_countStep 33 = .ok (.return_, 1) := by decide +kernel
abbrev rm_f_X11_countStep : Room := { frames := 2, cells := 0, slots := 0, locals := 41 }
def f_X11_countStep (N : Nat) (t : St) : Option (St) :=
    bdV (f_X4_keep N t) fun t1 =>
    lt1 (t1.1 300 11) fun v2 =>
    lt1 (t1.1 304 13) fun v3 =>
    lt1 (pI t1 300 11 (v2 + v3)) fun t4 =>
    lt1 (t4.1 300 12) fun v5 =>
    lt1 (pI t4 300 12 (v5 + 1)) fun t6 =>
    some t6
set_option maxHeartbeats 4000000 in
set_option maxRecDepth 100000 in
theorem b_f_X11_countStep {p : Program} {l : Launch} {e : Env} {s : State} {m : MethodId} {args : Array Value} {below : List Frame} {meth : Method} {c : Code} {E : cE} {A : Nat → Prop} {r : Nat → Nat} {mc ms : Nat} {z : St} {N : Nat} {t : St} (X : gX p s m meth c cX11_countStep 1 none yX11_countStep args E A) (h : f_X11_countStep N t = some z) : gP p l e rm_f_X11_countStep s m args below meth c E A 1 (MQ below ((gqV E (gW E r shH) z) A) args s mc ms A) (gW E r shH) 0 [(0, .ref (r 300))] [] t := by
  unfold f_X11_countStep at h
  refine g_aload_n X dX11_countStep_0 0 rfl ?_
  refine g_getR X fH_X11_66_300 rfl dX11_countStep_1 ?_
  refine g_callOV (rest := []) X (fun u9 h9 => cp_X4_keep l E r N t u9 h9) yy_X4_keep yi_X4_keep wdM_RX11_293 ⟨_, _, oH_309⟩ rfl rfl rfl (Nat.le_of_ble_eq_true rfl) dX11_countStep_4 ⟨by decide, by decide⟩ ⟨rfl, rfl⟩ h (fun t1 h => ?_)
  refine g_aload_n X dX11_countStep_7 0 rfl ?_
  refine g_dup X rfl dX11_countStep_8 ?_
  refine g_getI X fH_X11_158_300 rfl dX11_countStep_9 h (fun v2 h => ?_)
  refine g_aload_n X dX11_countStep_12 0 rfl ?_
  refine g_getR X fH_X11_37_300 rfl dX11_countStep_13 ?_
  refine g_getI X fH_X11_296_304 rfl dX11_countStep_16 h (fun v3 h => ?_)
  refine g_iadd X dX11_countStep_19 ?_
  refine g_putI X fH_X11_158_300w rfl dX11_countStep_20 h (fun t4 h => ?_)
  refine g_aload_n X dX11_countStep_23 0 rfl ?_
  refine g_dup X rfl dX11_countStep_24 ?_
  refine g_getI X fH_X11_161_300 rfl dX11_countStep_25 h (fun v5 h => ?_)
  refine g_iconst X dX11_countStep_28 ?_
  refine g_iadd X dX11_countStep_29 ?_
  refine g_putI X fH_X11_161_300w rfl dX11_countStep_30 h (fun t6 h => ?_)
  exact g_vret X h dX11_countStep_33
set_option maxHeartbeats 4000000 in
set_option maxRecDepth 100000 in
theorem cp_X11_countStep (l : Launch) (E : cE) (r : Nat → Nat) (N : Nat) (t : St) (z : St) (h : f_X11_countStep N t = some z) : cM l E yX11_countStep cX11_countStep 1 none rm_f_X11_countStep [.ref (r 300)] (gW E r shH t) (gqV E (gW E r shH) z) := by
  refine g_of (w := gW E r shH) (by decide) (Nat.le_of_ble_eq_true rfl) ?_
  intro p e s m below meth c A X
  exact g_sub (lv' := [(0, .ref (r 300))]) [0] rfl (b_f_X11_countStep X h)
theorem yy_X11_countStep : cY yX11_countStep cX11_countStep 1 none 0 := ⟨wdK_X11_countStep, wdZ_RX11, by decide +kernel⟩
theorem yi_X11_countStep : cYi yX11_countStep := ⟨wdN_X11_countStep, wdS_X11_countStep⟩
theorem dX11_fault_0 : decode cX11_fault 0 = .ok (.aload_n 0, 1) := by decide +kernel
theorem dX11_fault_1 : decode cX11_fault 1 = .ok (.getfield 121, 3) := by decide +kernel
theorem dX11_fault_4 : decode cX11_fault 4 = .ok (.ireturn, 1) := by decide +kernel
abbrev rm_f_X11_fault : Room := { frames := 0, cells := 0, slots := 0, locals := 0 }
def f_X11_fault (N : Nat) (t : St) : Option (Int × St) :=
    lt1 (t.1 300 13) fun v1 =>
    some (v1, t)
set_option maxHeartbeats 4000000 in
set_option maxRecDepth 100000 in
theorem b_f_X11_fault {p : Program} {l : Launch} {e : Env} {s : State} {m : MethodId} {args : Array Value} {below : List Frame} {meth : Method} {c : Code} {E : cE} {A : Nat → Prop} {r : Nat → Nat} {mc ms : Nat} {z : Int × St} {N : Nat} {t : St} (X : gX p s m meth c cX11_fault 1 (some .int) yX11_fault args E A) (h : f_X11_fault N t = some z) : gP p l e rm_f_X11_fault s m args below meth c E A 1 (MQ below ((gqI E (gW E r shH) z) A) args s mc ms A) (gW E r shH) 0 [(0, .ref (r 300))] [] t := by
  unfold f_X11_fault at h
  refine g_aload_n X dX11_fault_0 0 rfl ?_
  refine g_getI X fH_X11_121_300 rfl dX11_fault_1 h (fun v1 h => ?_)
  exact g_iret X h dX11_fault_4
set_option maxHeartbeats 4000000 in
set_option maxRecDepth 100000 in
theorem cp_X11_fault (l : Launch) (E : cE) (r : Nat → Nat) (N : Nat) (t : St) (z : Int × St) (h : f_X11_fault N t = some z) : cM l E yX11_fault cX11_fault 1 (some .int) rm_f_X11_fault [.ref (r 300)] (gW E r shH t) (gqI E (gW E r shH) z) := by
  refine g_of (w := gW E r shH) (by decide) (Nat.le_of_ble_eq_true rfl) ?_
  intro p e s m below meth c A X
  exact g_sub (lv' := [(0, .ref (r 300))]) [0] rfl (b_f_X11_fault X h)
theorem yy_X11_fault : cY yX11_fault cX11_fault 1 (some .int) 0 := ⟨wdK_X11_fault, wdZ_RX11, by decide +kernel⟩
theorem yi_X11_fault : cYi yX11_fault := ⟨wdN_X11_fault, wdS_X11_fault⟩
theorem dX11_named_0 : decode cX11_named 0 = .ok (.aload_n 0, 1) := by decide +kernel
theorem dX11_named_1 : decode cX11_named 1 = .ok (.getfield 10, 3) := by decide +kernel
theorem dX11_named_4 : decode cX11_named 4 = .ok (.invokevirtual 112, 3) := by decide +kernel
theorem dX11_named_7 : decode cX11_named 7 = .ok (.aload_n 0, 1) := by decide +kernel
theorem dX11_named_8 : decode cX11_named 8 = .ok (.getfield 28, 3) := by decide +kernel
theorem dX11_named_11 : decode cX11_named 11 = .ok (.invokevirtual 138, 3) := by decide +kernel
theorem dX11_named_14 : decode cX11_named 14 = .ok (.aload_n 0, 1) := by decide +kernel
theorem dX11_named_15 : decode cX11_named 15 = .ok (.aload_n 0, 1) := by decide +kernel
theorem dX11_named_16 : decode cX11_named 16 = .ok (.getfield 28, 3) := by decide +kernel
theorem dX11_named_19 : decode cX11_named 19 = .ok (.getfield 118, 3) := by decide +kernel
theorem dX11_named_22 : decode cX11_named 22 = .ok (.putfield 121, 3) := by decide +kernel
theorem dX11_named_25 : decode cX11_named 25 = .ok (.aload_n 0, 1) := by decide +kernel
theorem dX11_named_26 : decode cX11_named 26 = .ok (.getfield 121, 3) := by decide +kernel
theorem dX11_named_29 : decode cX11_named 29 = .ok (.ifCond .ne 12, 3) := by decide +kernel
theorem dX11_named_32 : decode cX11_named 32 = .ok (.iload_n 1, 1) := by decide +kernel
theorem dX11_named_33 : decode cX11_named 33 = .ok (.ifCond .lt 8, 3) := by decide +kernel
theorem dX11_named_36 : decode cX11_named 36 = .ok (.iload_n 1, 1) := by decide +kernel
theorem dX11_named_37 : decode cX11_named 37 = .ok (.iconst 2, 1) := by decide +kernel
theorem dX11_named_38 : decode cX11_named 38 = .ok (.if_icmp .le 5, 3) := by decide +kernel
theorem dX11_named_41 : decode cX11_named 41 = .ok (.iconst (-1), 1) := by decide +kernel
theorem dX11_named_42 : decode cX11_named 42 = .ok (.ireturn, 1) := by decide +kernel
theorem dX11_named_43 : decode cX11_named 43 = .ok (.aload_n 0, 1) := by decide +kernel
theorem dX11_named_44 : decode cX11_named 44 = .ok (.getfield 28, 3) := by decide +kernel
theorem dX11_named_47 : decode cX11_named 47 = .ok (.iload_n 1, 1) := by decide +kernel
theorem dX11_named_48 : decode cX11_named 48 = .ok (.invokevirtual 141, 3) := by decide +kernel
theorem dX11_named_51 : decode cX11_named 51 = .ok (.ireturn, 1) := by decide +kernel
abbrev rm_f_X11_named : Room := { frames := 6, cells := 0, slots := 0, locals := 136 }
def f_X11_named (N : Nat) (a0 : Int) (t : St) : Option (Int × St) :=
    bdV (f_X10_read N t) fun t1 =>
    bdV (f_X7_readName N t1) fun t2 =>
    lt1 (t2.1 303 5) fun v3 =>
    lt1 (pI t2 300 13 v3) fun t4 =>
    lt1 (t4.1 300 13) fun v5 =>
    cmpI v5 0 (if v5 = 0 then (cmpI a0 0 (if a0 < 0 then (some ((-1), t4))
    else (cmpI a0 2 (if 2 < a0 then (some ((-1), t4))
    else (bdI (f_X7_numberOfName N a0 t4) fun v7 t6 =>
    some (v7, t6))))))
    else (some ((-1), t4)))
set_option maxHeartbeats 4000000 in
set_option maxRecDepth 100000 in
theorem b_f_X11_named {p : Program} {l : Launch} {e : Env} {s : State} {m : MethodId} {args : Array Value} {below : List Frame} {meth : Method} {c : Code} {E : cE} {A : Nat → Prop} {r : Nat → Nat} {mc ms : Nat} {z : Int × St} {N : Nat} {a0 : Int} {t : St} (X : gX p s m meth c cX11_named 2 (some .int) yX11_named args E A) (h : f_X11_named N a0 t = some z) : gP p l e rm_f_X11_named s m args below meth c E A 2 (MQ below ((gqI E (gW E r shH) z) A) args s mc ms A) (gW E r shH) 0 [(0, .ref (r 300)), (1, iv a0)] [] t := by
  unfold f_X11_named at h
  refine g_aload_n X dX11_named_0 0 rfl ?_
  refine g_getR X fH_X11_10_300 rfl dX11_named_1 ?_
  refine g_callOV (rest := []) X (fun u9 h9 => cp_X10_read l E r N t u9 h9) yy_X10_read yi_X10_read wdM_RX11_112 ⟨_, _, oH_301⟩ rfl rfl rfl (Nat.le_of_ble_eq_true rfl) dX11_named_4 ⟨by decide, by decide⟩ ⟨rfl, rfl⟩ h (fun t1 h => ?_)
  refine g_aload_n X dX11_named_7 0 rfl ?_
  refine g_getR X fH_X11_28_300 rfl dX11_named_8 ?_
  refine g_callOV (rest := []) X (fun u9 h9 => cp_X7_readName l E r N t1 u9 h9) yy_X7_readName yi_X7_readName wdM_RX11_138 ⟨_, _, oH_303⟩ rfl rfl rfl (Nat.le_of_ble_eq_true rfl) dX11_named_11 ⟨by decide, by decide⟩ ⟨rfl, rfl⟩ h (fun t2 h => ?_)
  refine g_aload_n X dX11_named_14 0 rfl ?_
  refine g_aload_n X dX11_named_15 0 rfl ?_
  refine g_getR X fH_X11_28_300 rfl dX11_named_16 ?_
  refine g_getI X fH_X11_118_303 rfl dX11_named_19 h (fun v3 h => ?_)
  refine g_putI X fH_X11_121_300w rfl dX11_named_22 h (fun t4 h => ?_)
  refine g_aload_n X dX11_named_25 0 rfl ?_
  refine g_getI X fH_X11_121_300 rfl dX11_named_26 h (fun v5 h => ?_)
  refine g_if_ne (tgt := 41) X dX11_named_29 (by decide) h (fun h => ?_) (fun h => ?_)
  · refine g_iconst X dX11_named_41 ?_
    exact g_iret X h dX11_named_42
  · refine g_iload_n X dX11_named_32 1 rfl ?_
    refine g_if_lt (tgt := 41) X dX11_named_33 (by decide) h (fun h => ?_) (fun h => ?_)
    · refine g_iconst X dX11_named_41 ?_
      exact g_iret X h dX11_named_42
    · refine g_iload_n X dX11_named_36 1 rfl ?_
      refine g_iconst X dX11_named_37 ?_
      refine g_icmp_le (tgt := 43) X dX11_named_38 (by decide) h (fun h => ?_) (fun h => ?_)
      · refine g_aload_n X dX11_named_43 0 rfl ?_
        refine g_getR X fH_X11_28_300 rfl dX11_named_44 ?_
        refine g_iload_n X dX11_named_47 1 rfl ?_
        refine g_callOI (rest := []) X (fun u9 h9 => cp_X7_numberOfName l E r N a0 t4 u9 h9) yy_X7_numberOfName yi_X7_numberOfName wdM_RX11_141 ⟨_, _, oH_303⟩ rfl rfl rfl (Nat.le_of_ble_eq_true rfl) dX11_named_48 ⟨by decide, by decide⟩ ⟨rfl, rfl⟩ h (fun v7 t6 h => ?_)
        exact g_iret X h dX11_named_51
      · refine g_iconst X dX11_named_41 ?_
        exact g_iret X h dX11_named_42
set_option maxHeartbeats 4000000 in
set_option maxRecDepth 100000 in
theorem cp_X11_named (l : Launch) (E : cE) (r : Nat → Nat) (N : Nat) (a0 : Int) (t : St) (z : Int × St) (h : f_X11_named N a0 t = some z) : cM l E yX11_named cX11_named 2 (some .int) rm_f_X11_named [.ref (r 300), iv a0] (gW E r shH t) (gqI E (gW E r shH) z) := by
  refine g_of (w := gW E r shH) (by decide) (Nat.le_of_ble_eq_true rfl) ?_
  intro p e s m below meth c A X
  exact g_sub (lv' := [(0, .ref (r 300)), (1, iv a0)]) [0, 1] rfl (b_f_X11_named X h)
theorem yy_X11_named : cY yX11_named cX11_named 2 (some .int) 1 := ⟨wdK_X11_named, wdZ_RX11, by decide +kernel⟩
theorem yi_X11_named : cYi yX11_named := ⟨wdN_X11_named, wdS_X11_named⟩
theorem dX11_set_0 : decode cX11_set 0 = .ok (.iload_n 1, 1) := by decide +kernel
theorem dX11_set_1 : decode cX11_set 1 = .ok (.iload_n 2, 1) := by decide +kernel
theorem dX11_set_2 : decode cX11_set 2 = .ok (.invokestatic 144, 3) := by decide +kernel
theorem dX11_set_5 : decode cX11_set 5 = .ok (.ifCond .ne 5, 3) := by decide +kernel
theorem dX11_set_8 : decode cX11_set 8 = .ok (.iconst 0, 1) := by decide +kernel
theorem dX11_set_9 : decode cX11_set 9 = .ok (.ireturn, 1) := by decide +kernel
theorem dX11_set_10 : decode cX11_set 10 = .ok (.aload_n 0, 1) := by decide +kernel
theorem dX11_set_11 : decode cX11_set 11 = .ok (.getfield 44, 3) := by decide +kernel
theorem dX11_set_14 : decode cX11_set 14 = .ok (.iload_n 1, 1) := by decide +kernel
theorem dX11_set_15 : decode cX11_set 15 = .ok (.iload_n 2, 1) := by decide +kernel
theorem dX11_set_16 : decode cX11_set 16 = .ok (.invokevirtual 93, 3) := by decide +kernel
theorem dX11_set_19 : decode cX11_set 19 = .ok (.aload_n 0, 1) := by decide +kernel
theorem dX11_set_20 : decode cX11_set 20 = .ok (.getfield 44, 3) := by decide +kernel
theorem dX11_set_23 : decode cX11_set 23 = .ok (.aload_n 0, 1) := by decide +kernel
theorem dX11_set_24 : decode cX11_set 24 = .ok (.getfield 79, 3) := by decide +kernel
theorem dX11_set_27 : decode cX11_set 27 = .ok (.invokevirtual 97, 3) := by decide +kernel
theorem dX11_set_30 : decode cX11_set 30 = .ok (.aload_n 0, 1) := by decide +kernel
theorem dX11_set_31 : decode cX11_set 31 = .ok (.getfield 66, 3) := by decide +kernel
theorem dX11_set_34 : decode cX11_set 34 = .ok (.invokevirtual 148, 3) := by decide +kernel
theorem dX11_set_37 : decode cX11_set 37 = .ok (.aload_n 0, 1) := by decide +kernel
theorem dX11_set_38 : decode cX11_set 38 = .ok (.getfield 56, 3) := by decide +kernel
theorem dX11_set_41 : decode cX11_set 41 = .ok (.iconst 0, 1) := by decide +kernel
theorem dX11_set_42 : decode cX11_set 42 = .ok (.putfield 151, 3) := by decide +kernel
theorem dX11_set_45 : decode cX11_set 45 = .ok (.aload_n 0, 1) := by decide +kernel
theorem dX11_set_46 : decode cX11_set 46 = .ok (.getfield 75, 3) := by decide +kernel
theorem dX11_set_49 : decode cX11_set 49 = .ok (.invokevirtual 155, 3) := by decide +kernel
theorem dX11_set_52 : decode cX11_set 52 = .ok (.aload_n 0, 1) := by decide +kernel
theorem dX11_set_53 : decode cX11_set 53 = .ok (.iconst 0, 1) := by decide +kernel
theorem dX11_set_54 : decode cX11_set 54 = .ok (.putfield 158, 3) := by decide +kernel
theorem dX11_set_57 : decode cX11_set 57 = .ok (.aload_n 0, 1) := by decide +kernel
theorem dX11_set_58 : decode cX11_set 58 = .ok (.iconst 0, 1) := by decide +kernel
theorem dX11_set_59 : decode cX11_set 59 = .ok (.putfield 161, 3) := by decide +kernel
theorem dX11_set_62 : decode cX11_set 62 = .ok (.iconst 1, 1) := by decide +kernel
theorem dX11_set_63 : decode cX11_set 63 = .ok (.ireturn, 1) := by decide +kernel
abbrev rm_f_X11_set : Room := { frames := 5, cells := 0, slots := 0, locals := 114 }
def f_X11_set (N : Nat) (a0 : Int) (a1 : Int) (t : St) : Option (Int × St) :=
    bdI (f_X3_isSet N a0 a1 t) fun v2 t1 =>
    cmpI v2 0 (if v2 = 0 then (boI 0 (some (0, t1)))
    else (bdV (f_X3_lay N 0 a0 a1 t1) fun t3 =>
    bdV (f_X3_copyCodes N 0 320 64 t3) fun t4 =>
    bdV (f_X4_clear N t4) fun t5 =>
    boI 0 (lt1 (pI t5 (307 + 0) 2 0) fun t6 =>
    bdV (f_X9_forget N t6) fun t7 =>
    lt1 (pI t7 300 11 0) fun t8 =>
    lt1 (pI t8 300 12 0) fun t9 =>
    boI 1 (some (1, t9)))))
set_option maxHeartbeats 4000000 in
set_option maxRecDepth 100000 in
theorem b_f_X11_set {p : Program} {l : Launch} {e : Env} {s : State} {m : MethodId} {args : Array Value} {below : List Frame} {meth : Method} {c : Code} {E : cE} {A : Nat → Prop} {r : Nat → Nat} {mc ms : Nat} {z : Int × St} {N : Nat} {a0 : Int} {a1 : Int} {t : St} (X : gX p s m meth c cX11_set 3 (some .boolean) yX11_set args E A) (h : f_X11_set N a0 a1 t = some z) : gP p l e rm_f_X11_set s m args below meth c E A 3 (MQ below ((gqI E (gW E r shH) z) A) args s mc ms A) (gW E r shH) 0 [(0, .ref (r 300)), (1, iv a0), (2, iv a1)] [] t := by
  unfold f_X11_set at h
  refine g_iload_n X dX11_set_0 1 rfl ?_
  refine g_iload_n X dX11_set_1 2 rfl ?_
  refine g_callsI (rest := []) X (fun u9 h9 => cp_X3_isSet l E r N a0 a1 t u9 h9) yy_X3_isSet wdT_X3_isSet wdM_RX11_144 rfl rfl (Nat.le_of_ble_eq_true rfl) dX11_set_2 ⟨by decide, by decide⟩ ⟨rfl, rfl⟩ h (fun v2 t1 h => ?_)
  refine g_if_ne (tgt := 10) X dX11_set_5 (by decide) h (fun h => ?_) (fun h => ?_)
  · refine g_aload_n X dX11_set_10 0 rfl ?_
    refine g_getR X fH_X11_44_300 rfl dX11_set_11 ?_
    refine g_iload_n X dX11_set_14 1 rfl ?_
    refine g_iload_n X dX11_set_15 2 rfl ?_
    refine g_callOV (rest := []) X (fun u9 h9 => cp_X3_lay l E r N 0 (by decide) a0 a1 t1 u9 h9) yy_X3_lay yi_X3_lay wdM_RX11_93 (oX3 (o := 0) (by decide)) rfl rfl rfl (Nat.le_of_ble_eq_true rfl) dX11_set_16 ⟨by decide, by decide⟩ ⟨rfl, rfl⟩ h (fun t3 h => ?_)
    refine g_aload_n X dX11_set_19 0 rfl ?_
    refine g_getR X fH_X11_44_300 rfl dX11_set_20 ?_
    refine g_aload_n X dX11_set_23 0 rfl ?_
    refine g_getR X fH_X11_79_300 rfl dX11_set_24 ?_
    refine g_callOV (rest := []) X (fun u9 h9 => cp_X3_copyCodes l E r N 0 (by decide) 320 64 aH_320 t3 u9 h9) yy_X3_copyCodes yi_X3_copyCodes wdM_RX11_97 (oX3 (o := 0) (by decide)) rfl rfl rfl (Nat.le_of_ble_eq_true rfl) dX11_set_27 ⟨by decide, by decide⟩ ⟨rfl, rfl⟩ h (fun t4 h => ?_)
    refine g_aload_n X dX11_set_30 0 rfl ?_
    refine g_getR X fH_X11_66_300 rfl dX11_set_31 ?_
    refine g_callOV (rest := []) X (fun u9 h9 => cp_X4_clear l E r N t4 u9 h9) yy_X4_clear yi_X4_clear wdM_RX11_148 ⟨_, _, oH_309⟩ rfl rfl rfl (Nat.le_of_ble_eq_true rfl) dX11_set_34 ⟨by decide, by decide⟩ ⟨rfl, rfl⟩ h (fun t5 h => ?_)
    refine g_aload_n X dX11_set_37 0 rfl ?_
    refine g_getR X fH_X11_56_300 rfl dX11_set_38 ?_
    refine g_iconst X dX11_set_41 ?_
    refine g_putZ X (fH_X11_151_ow (o := 0) (by decide)) rfl dX11_set_42 h (fun t6 h => ?_)
    refine g_aload_n X dX11_set_45 0 rfl ?_
    refine g_getR X fH_X11_75_300 rfl dX11_set_46 ?_
    refine g_callOV (rest := []) X (fun u9 h9 => cp_X9_forget l E r N t6 u9 h9) yy_X9_forget yi_X9_forget wdM_RX11_155 ⟨_, _, oH_310⟩ rfl rfl rfl (Nat.le_of_ble_eq_true rfl) dX11_set_49 ⟨by decide, by decide⟩ ⟨rfl, rfl⟩ h (fun t7 h => ?_)
    refine g_aload_n X dX11_set_52 0 rfl ?_
    refine g_iconst X dX11_set_53 ?_
    refine g_putI X fH_X11_158_300w rfl dX11_set_54 h (fun t8 h => ?_)
    refine g_aload_n X dX11_set_57 0 rfl ?_
    refine g_iconst X dX11_set_58 ?_
    refine g_putI X fH_X11_161_300w rfl dX11_set_59 h (fun t9 h => ?_)
    refine g_iconst X dX11_set_62 ?_
    exact g_zret X h dX11_set_63
  · refine g_iconst X dX11_set_8 ?_
    exact g_zret X h dX11_set_9
set_option maxHeartbeats 4000000 in
set_option maxRecDepth 100000 in
theorem cp_X11_set (l : Launch) (E : cE) (r : Nat → Nat) (N : Nat) (a0 : Int) (a1 : Int) (t : St) (z : Int × St) (h : f_X11_set N a0 a1 t = some z) : cM l E yX11_set cX11_set 3 (some .boolean) rm_f_X11_set [.ref (r 300), iv a0, iv a1] (gW E r shH t) (gqI E (gW E r shH) z) := by
  refine g_of (w := gW E r shH) (by decide) (Nat.le_of_ble_eq_true rfl) ?_
  intro p e s m below meth c A X
  exact g_sub (lv' := [(0, .ref (r 300)), (1, iv a0), (2, iv a1)]) [0, 1, 2] rfl (b_f_X11_set X h)
theorem yy_X11_set : cY yX11_set cX11_set 3 (some .boolean) 2 := ⟨wdK_X11_set, wdZ_RX11, by decide +kernel⟩
theorem yi_X11_set : cYi yX11_set := ⟨wdN_X11_set, wdS_X11_set⟩
theorem dX11_mark_0 : decode cX11_mark 0 = .ok (.aload_n 0, 1) := by decide +kernel
theorem dX11_mark_1 : decode cX11_mark 1 = .ok (.getfield 44, 3) := by decide +kernel
theorem dX11_mark_4 : decode cX11_mark 4 = .ok (.aload_n 0, 1) := by decide +kernel
theorem dX11_mark_5 : decode cX11_mark 5 = .ok (.getfield 79, 3) := by decide +kernel
theorem dX11_mark_8 : decode cX11_mark 8 = .ok (.invokevirtual 97, 3) := by decide +kernel
theorem dX11_mark_11 : decode cX11_mark 11 = .ok (.return_, 1) := by decide +kernel
abbrev rm_f_X11_mark : Room := { frames := 3, cells := 0, slots := 0, locals := 65 }
def f_X11_mark (N : Nat) (t : St) : Option (St) :=
    bdV (f_X3_copyCodes N 0 320 64 t) fun t1 =>
    some t1
set_option maxHeartbeats 4000000 in
set_option maxRecDepth 100000 in
theorem b_f_X11_mark {p : Program} {l : Launch} {e : Env} {s : State} {m : MethodId} {args : Array Value} {below : List Frame} {meth : Method} {c : Code} {E : cE} {A : Nat → Prop} {r : Nat → Nat} {mc ms : Nat} {z : St} {N : Nat} {t : St} (X : gX p s m meth c cX11_mark 1 none yX11_mark args E A) (h : f_X11_mark N t = some z) : gP p l e rm_f_X11_mark s m args below meth c E A 1 (MQ below ((gqV E (gW E r shH) z) A) args s mc ms A) (gW E r shH) 0 [(0, .ref (r 300))] [] t := by
  unfold f_X11_mark at h
  refine g_aload_n X dX11_mark_0 0 rfl ?_
  refine g_getR X fH_X11_44_300 rfl dX11_mark_1 ?_
  refine g_aload_n X dX11_mark_4 0 rfl ?_
  refine g_getR X fH_X11_79_300 rfl dX11_mark_5 ?_
  refine g_callOV (rest := []) X (fun u9 h9 => cp_X3_copyCodes l E r N 0 (by decide) 320 64 aH_320 t u9 h9) yy_X3_copyCodes yi_X3_copyCodes wdM_RX11_97 (oX3 (o := 0) (by decide)) rfl rfl rfl (Nat.le_of_ble_eq_true rfl) dX11_mark_8 ⟨by decide, by decide⟩ ⟨rfl, rfl⟩ h (fun t1 h => ?_)
  exact g_vret X h dX11_mark_11
set_option maxHeartbeats 4000000 in
set_option maxRecDepth 100000 in
theorem cp_X11_mark (l : Launch) (E : cE) (r : Nat → Nat) (N : Nat) (t : St) (z : St) (h : f_X11_mark N t = some z) : cM l E yX11_mark cX11_mark 1 none rm_f_X11_mark [.ref (r 300)] (gW E r shH t) (gqV E (gW E r shH) z) := by
  refine g_of (w := gW E r shH) (by decide) (Nat.le_of_ble_eq_true rfl) ?_
  intro p e s m below meth c A X
  exact g_sub (lv' := [(0, .ref (r 300))]) [0] rfl (b_f_X11_mark X h)
theorem yy_X11_mark : cY yX11_mark cX11_mark 1 none 0 := ⟨wdK_X11_mark, wdZ_RX11, by decide +kernel⟩
theorem yi_X11_mark : cYi yX11_mark := ⟨wdN_X11_mark, wdS_X11_mark⟩
theorem dX11_begin_0 : decode cX11_begin 0 = .ok (.iload_n 1, 1) := by decide +kernel
theorem dX11_begin_1 : decode cX11_begin 1 = .ok (.ifCond .lt 17, 3) := by decide +kernel
theorem dX11_begin_4 : decode cX11_begin 4 = .ok (.iload_n 1, 1) := by decide +kernel
theorem dX11_begin_5 : decode cX11_begin 5 = .ok (.aload_n 0, 1) := by decide +kernel
theorem dX11_begin_6 : decode cX11_begin 6 = .ok (.getfield 19, 3) := by decide +kernel
theorem dX11_begin_9 : decode cX11_begin 9 = .ok (.getfield 164, 3) := by decide +kernel
theorem dX11_begin_12 : decode cX11_begin 12 = .ok (.getfield 168, 3) := by decide +kernel
theorem dX11_begin_15 : decode cX11_begin 15 = .ok (.if_icmp .lt 5, 3) := by decide +kernel
theorem dX11_begin_18 : decode cX11_begin 18 = .ok (.iconst 0, 1) := by decide +kernel
theorem dX11_begin_19 : decode cX11_begin 19 = .ok (.ireturn, 1) := by decide +kernel
theorem dX11_begin_20 : decode cX11_begin 20 = .ok (.aload_n 0, 1) := by decide +kernel
theorem dX11_begin_21 : decode cX11_begin 21 = .ok (.getfield 56, 3) := by decide +kernel
theorem dX11_begin_24 : decode cX11_begin 24 = .ok (.iload_n 1, 1) := by decide +kernel
theorem dX11_begin_25 : decode cX11_begin 25 = .ok (.aload_n 0, 1) := by decide +kernel
theorem dX11_begin_26 : decode cX11_begin 26 = .ok (.getfield 44, 3) := by decide +kernel
theorem dX11_begin_29 : decode cX11_begin 29 = .ok (.invokevirtual 173, 3) := by decide +kernel
theorem dX11_begin_32 : decode cX11_begin 32 = .ok (.invokevirtual 177, 3) := by decide +kernel
theorem dX11_begin_35 : decode cX11_begin 35 = .ok (.iconst 1, 1) := by decide +kernel
theorem dX11_begin_36 : decode cX11_begin 36 = .ok (.ireturn, 1) := by decide +kernel
abbrev rm_f_X11_begin : Room := { frames := 1, cells := 0, slots := 0, locals := 23 }
def f_X11_begin (N : Nat) (a0 : Int) (t : St) : Option (Int × St) :=
    cmpI a0 0 (if a0 < 0 then (boI 0 (some (0, t)))
    else (lt1 (t.1 (312 + 2) 2) fun v1 =>
    cmpI a0 v1 (if a0 < v1 then (bdL (f_X3_everybody N 0 t) fun v3 t2 =>
    bdV (f_X8_start N 0 a0 v3 t2) fun t4 =>
    boI 1 (some (1, t4)))
    else (boI 0 (some (0, t))))))
set_option maxHeartbeats 4000000 in
set_option maxRecDepth 100000 in
theorem b_f_X11_begin {p : Program} {l : Launch} {e : Env} {s : State} {m : MethodId} {args : Array Value} {below : List Frame} {meth : Method} {c : Code} {E : cE} {A : Nat → Prop} {r : Nat → Nat} {mc ms : Nat} {z : Int × St} {N : Nat} {a0 : Int} {t : St} (X : gX p s m meth c cX11_begin 2 (some .boolean) yX11_begin args E A) (h : f_X11_begin N a0 t = some z) : gP p l e rm_f_X11_begin s m args below meth c E A 2 (MQ below ((gqI E (gW E r shH) z) A) args s mc ms A) (gW E r shH) 0 [(0, .ref (r 300)), (1, iv a0)] [] t := by
  unfold f_X11_begin at h
  refine g_iload_n X dX11_begin_0 1 rfl ?_
  refine g_if_lt (tgt := 18) X dX11_begin_1 (by decide) h (fun h => ?_) (fun h => ?_)
  · refine g_iconst X dX11_begin_18 ?_
    exact g_zret X h dX11_begin_19
  · refine g_iload_n X dX11_begin_4 1 rfl ?_
    refine g_aload_n X dX11_begin_5 0 rfl ?_
    refine g_getR X fH_X11_19_300 rfl dX11_begin_6 ?_
    refine g_getR X fH_X11_164_302 rfl dX11_begin_9 ?_
    refine g_getI X (fH_X11_168_o (o := 2) (by decide)) rfl dX11_begin_12 h (fun v1 h => ?_)
    refine g_icmp_lt (tgt := 20) X dX11_begin_15 (by decide) h (fun h => ?_) (fun h => ?_)
    · refine g_aload_n X dX11_begin_20 0 rfl ?_
      refine g_getR X fH_X11_56_300 rfl dX11_begin_21 ?_
      refine g_iload_n X dX11_begin_24 1 rfl ?_
      refine g_aload_n X dX11_begin_25 0 rfl ?_
      refine g_getR X fH_X11_44_300 rfl dX11_begin_26 ?_
      refine g_callOL (rest := [iv a0, .ref (r (307 + 0))]) X (fun u9 h9 => cp_X3_everybody l E r N 0 (by decide) t u9 h9) yy_X3_everybody yi_X3_everybody wdM_RX11_173 (oX3 (o := 0) (by decide)) rfl rfl rfl (Nat.le_of_ble_eq_true rfl) dX11_begin_29 ⟨by decide, by decide⟩ ⟨rfl, rfl⟩ h (fun v3 t2 h => ?_)
      refine g_callOV (rest := []) X (fun u9 h9 => cp_X8_start l E r N 0 (by decide) a0 v3 t2 u9 h9) yy_X8_start yi_X8_start wdM_RX11_177 (oX8 (o := 0) (by decide)) rfl rfl rfl (Nat.le_of_ble_eq_true rfl) dX11_begin_32 ⟨by decide, by decide⟩ ⟨rfl, rfl⟩ h (fun t4 h => ?_)
      refine g_iconst X dX11_begin_35 ?_
      exact g_zret X h dX11_begin_36
    · refine g_iconst X dX11_begin_18 ?_
      exact g_zret X h dX11_begin_19
set_option maxHeartbeats 4000000 in
set_option maxRecDepth 100000 in
theorem cp_X11_begin (l : Launch) (E : cE) (r : Nat → Nat) (N : Nat) (a0 : Int) (t : St) (z : Int × St) (h : f_X11_begin N a0 t = some z) : cM l E yX11_begin cX11_begin 2 (some .boolean) rm_f_X11_begin [.ref (r 300), iv a0] (gW E r shH t) (gqI E (gW E r shH) z) := by
  refine g_of (w := gW E r shH) (by decide) (Nat.le_of_ble_eq_true rfl) ?_
  intro p e s m below meth c A X
  exact g_sub (lv' := [(0, .ref (r 300)), (1, iv a0)]) [0, 1] rfl (b_f_X11_begin X h)
theorem yy_X11_begin : cY yX11_begin cX11_begin 2 (some .boolean) 1 := ⟨wdK_X11_begin, wdZ_RX11, by decide +kernel⟩
theorem yi_X11_begin : cYi yX11_begin := ⟨wdN_X11_begin, wdS_X11_begin⟩
theorem dX11_failed_0 : decode cX11_failed 0 = .ok (.iload_n 1, 1) := by decide +kernel
theorem dX11_failed_1 : decode cX11_failed 1 = .ok (.tableswitch 42 0 2 #[27, 32, 37], 27) := by decide +kernel
theorem dX11_failed_28 : decode cX11_failed 28 = .ok (.aload_n 0, 1) := by decide +kernel
theorem dX11_failed_29 : decode cX11_failed 29 = .ok (.getfield 83, 3) := by decide +kernel
theorem dX11_failed_32 : decode cX11_failed 32 = .ok (.ireturn, 1) := by decide +kernel
theorem dX11_failed_33 : decode cX11_failed 33 = .ok (.aload_n 0, 1) := by decide +kernel
theorem dX11_failed_34 : decode cX11_failed 34 = .ok (.getfield 87, 3) := by decide +kernel
theorem dX11_failed_37 : decode cX11_failed 37 = .ok (.ireturn, 1) := by decide +kernel
theorem dX11_failed_38 : decode cX11_failed 38 = .ok (.aload_n 0, 1) := by decide +kernel
theorem dX11_failed_39 : decode cX11_failed 39 = .ok (.getfield 90, 3) := by decide +kernel
theorem dX11_failed_42 : decode cX11_failed 42 = .ok (.ireturn, 1) := by decide +kernel
theorem dX11_failed_43 : decode cX11_failed 43 = .ok (.iconst (-1), 1) := by decide +kernel
theorem dX11_failed_44 : decode cX11_failed 44 = .ok (.ireturn, 1) := by decide +kernel
abbrev rm_f_X11_failed : Room := { frames := 0, cells := 0, slots := 0, locals := 0 }
def f_X11_failed (N : Nat) (a0 : Int) (t : St) : Option (Int × St) :=
    rnI a0 (if a0 = 0 then (lt1 (t.1 300 14) fun v1 =>
    some (v1, t))
    else (if a0 = 1 then (lt1 (t.1 300 15) fun v2 =>
    some (v2, t))
    else (if a0 = 2 then (lt1 (t.1 300 16) fun v3 =>
    some (v3, t))
    else (some ((-1), t)))))
set_option maxHeartbeats 4000000 in
set_option maxRecDepth 100000 in
theorem b_f_X11_failed {p : Program} {l : Launch} {e : Env} {s : State} {m : MethodId} {args : Array Value} {below : List Frame} {meth : Method} {c : Code} {E : cE} {A : Nat → Prop} {r : Nat → Nat} {mc ms : Nat} {z : Int × St} {N : Nat} {a0 : Int} {t : St} (X : gX p s m meth c cX11_failed 2 (some .int) yX11_failed args E A) (h : f_X11_failed N a0 t = some z) : gP p l e rm_f_X11_failed s m args below meth c E A 2 (MQ below ((gqI E (gW E r shH) z) A) args s mc ms A) (gW E r shH) 0 [(0, .ref (r 300)), (1, iv a0)] [] t := by
  unfold f_X11_failed at h
  refine g_iload_n X dX11_failed_0 1 rfl ?_
  obtain ⟨hr9, h⟩ := rnI_some h
  by_cases e9_0 : a0 = 0
  · rw [if_pos e9_0] at h
    refine g_tableIn X (tgt := 28) (off := 27) dX11_failed_1 (k := 0) hr9 e9_0 (by decide) (by decide) rfl (by decide) ?_
    refine g_aload_n X dX11_failed_28 0 rfl ?_
    refine g_getI X fH_X11_83_300 rfl dX11_failed_29 h (fun v1 h => ?_)
    exact g_iret X h dX11_failed_32
  · rw [if_neg e9_0] at h
    by_cases e9_1 : a0 = 1
    · rw [if_pos e9_1] at h
      refine g_tableIn X (tgt := 33) (off := 32) dX11_failed_1 (k := 1) hr9 e9_1 (by decide) (by decide) rfl (by decide) ?_
      refine g_aload_n X dX11_failed_33 0 rfl ?_
      refine g_getI X fH_X11_87_300 rfl dX11_failed_34 h (fun v2 h => ?_)
      exact g_iret X h dX11_failed_37
    · rw [if_neg e9_1] at h
      by_cases e9_2 : a0 = 2
      · rw [if_pos e9_2] at h
        refine g_tableIn X (tgt := 38) (off := 37) dX11_failed_1 (k := 2) hr9 e9_2 (by decide) (by decide) rfl (by decide) ?_
        refine g_aload_n X dX11_failed_38 0 rfl ?_
        refine g_getI X fH_X11_90_300 rfl dX11_failed_39 h (fun v3 h => ?_)
        exact g_iret X h dX11_failed_42
      · rw [if_neg e9_2] at h
        refine g_tableOut X (tgt := 43) dX11_failed_1 hr9 (by omega) (by decide) ?_
        refine g_iconst X dX11_failed_43 ?_
        exact g_iret X h dX11_failed_44
set_option maxHeartbeats 4000000 in
set_option maxRecDepth 100000 in
theorem cp_X11_failed (l : Launch) (E : cE) (r : Nat → Nat) (N : Nat) (a0 : Int) (t : St) (z : Int × St) (h : f_X11_failed N a0 t = some z) : cM l E yX11_failed cX11_failed 2 (some .int) rm_f_X11_failed [.ref (r 300), iv a0] (gW E r shH t) (gqI E (gW E r shH) z) := by
  refine g_of (w := gW E r shH) (by decide) (Nat.le_of_ble_eq_true rfl) ?_
  intro p e s m below meth c A X
  exact g_sub (lv' := [(0, .ref (r 300)), (1, iv a0)]) [0, 1] rfl (b_f_X11_failed X h)
theorem yy_X11_failed : cY yX11_failed cX11_failed 2 (some .int) 1 := ⟨wdK_X11_failed, wdZ_RX11, by decide +kernel⟩
theorem yi_X11_failed : cYi yX11_failed := ⟨wdN_X11_failed, wdS_X11_failed⟩
theorem dX11_may_0 : decode cX11_may 0 = .ok (.iload_n 1, 1) := by decide +kernel
theorem dX11_may_1 : decode cX11_may 1 = .ok (.ifCond .lt 14, 3) := by decide +kernel
theorem dX11_may_4 : decode cX11_may 4 = .ok (.iload_n 1, 1) := by decide +kernel
theorem dX11_may_5 : decode cX11_may 5 = .ok (.aload_n 0, 1) := by decide +kernel
theorem dX11_may_6 : decode cX11_may 6 = .ok (.getfield 19, 3) := by decide +kernel
theorem dX11_may_9 : decode cX11_may 9 = .ok (.getfield 211, 3) := by decide +kernel
theorem dX11_may_12 : decode cX11_may 12 = .ok (.if_icmp .lt 5, 3) := by decide +kernel
theorem dX11_may_15 : decode cX11_may 15 = .ok (.iconst (-1), 1) := by decide +kernel
theorem dX11_may_16 : decode cX11_may 16 = .ok (.ireturn, 1) := by decide +kernel
theorem dX11_may_17 : decode cX11_may 17 = .ok (.aload_n 0, 1) := by decide +kernel
theorem dX11_may_18 : decode cX11_may 18 = .ok (.getfield 37, 3) := by decide +kernel
theorem dX11_may_21 : decode cX11_may 21 = .ok (.aload_n 0, 1) := by decide +kernel
theorem dX11_may_22 : decode cX11_may 22 = .ok (.getfield 19, 3) := by decide +kernel
theorem dX11_may_25 : decode cX11_may 25 = .ok (.getfield 214, 3) := by decide +kernel
theorem dX11_may_28 : decode cX11_may 28 = .ok (.iload_n 1, 1) := by decide +kernel
theorem dX11_may_29 : decode cX11_may 29 = .ok (.iaload, 1) := by decide +kernel
theorem dX11_may_30 : decode cX11_may 30 = .ok (.aload_n 0, 1) := by decide +kernel
theorem dX11_may_31 : decode cX11_may 31 = .ok (.getfield 44, 3) := by decide +kernel
theorem dX11_may_34 : decode cX11_may 34 = .ok (.aload_n 0, 1) := by decide +kernel
theorem dX11_may_35 : decode cX11_may 35 = .ok (.getfield 44, 3) := by decide +kernel
theorem dX11_may_38 : decode cX11_may 38 = .ok (.invokevirtual 173, 3) := by decide +kernel
theorem dX11_may_41 : decode cX11_may 41 = .ok (.invokevirtual 217, 3) := by decide +kernel
theorem dX11_may_44 : decode cX11_may 44 = .ok (.istore_n 2, 1) := by decide +kernel
theorem dX11_may_45 : decode cX11_may 45 = .ok (.iload_n 2, 1) := by decide +kernel
theorem dX11_may_46 : decode cX11_may 46 = .ok (.ifCond .eq 7, 3) := by decide +kernel
theorem dX11_may_49 : decode cX11_may 49 = .ok (.aload_n 0, 1) := by decide +kernel
theorem dX11_may_50 : decode cX11_may 50 = .ok (.invokevirtual 192, 3) := by decide +kernel
theorem dX11_may_53 : decode cX11_may 53 = .ok (.iload_n 2, 1) := by decide +kernel
theorem dX11_may_54 : decode cX11_may 54 = .ok (.ireturn, 1) := by decide +kernel
abbrev rm_f_X11_may : Room := { frames := 5, cells := 0, slots := 0, locals := 152 }
def f_X11_may (N : Nat) (a0 : Int) (t : St) : Option (Int × St) :=
    cmpI a0 0 (if a0 < 0 then (some ((-1), t))
    else (lt1 (t.1 302 16) fun v1 =>
    cmpI a0 v1 (if a0 < v1 then (ixI a0 32 (lt1 (t.1 361 a0.toNat) fun v2 =>
    bdL (f_X3_everybody N 0 t) fun v4 t3 =>
    bdI (f_X1_attempt N 0 v2 v4 t3) fun v6 t5 =>
    cmpI v6 0 (if v6 = 0 then (some (v6, t5))
    else (bdV (f_X11_noteFailure N t5) fun t7 =>
    some (v6, t7)))))
    else (some ((-1), t)))))
set_option maxHeartbeats 4000000 in
set_option maxRecDepth 100000 in
theorem b_f_X11_may {p : Program} {l : Launch} {e : Env} {s : State} {m : MethodId} {args : Array Value} {below : List Frame} {meth : Method} {c : Code} {E : cE} {A : Nat → Prop} {r : Nat → Nat} {mc ms : Nat} {z : Int × St} {N : Nat} {a0 : Int} {t : St} (X : gX p s m meth c cX11_may 3 (some .int) yX11_may args E A) (h : f_X11_may N a0 t = some z) : gP p l e rm_f_X11_may s m args below meth c E A 3 (MQ below ((gqI E (gW E r shH) z) A) args s mc ms A) (gW E r shH) 0 [(0, .ref (r 300)), (1, iv a0)] [] t := by
  unfold f_X11_may at h
  refine g_iload_n X dX11_may_0 1 rfl ?_
  refine g_if_lt (tgt := 15) X dX11_may_1 (by decide) h (fun h => ?_) (fun h => ?_)
  · refine g_iconst X dX11_may_15 ?_
    exact g_iret X h dX11_may_16
  · refine g_iload_n X dX11_may_4 1 rfl ?_
    refine g_aload_n X dX11_may_5 0 rfl ?_
    refine g_getR X fH_X11_19_300 rfl dX11_may_6 ?_
    refine g_getI X fH_X11_211_302 rfl dX11_may_9 h (fun v1 h => ?_)
    refine g_icmp_lt (tgt := 17) X dX11_may_12 (by decide) h (fun h => ?_) (fun h => ?_)
    · refine g_aload_n X dX11_may_17 0 rfl ?_
      refine g_getR X fH_X11_37_300 rfl dX11_may_18 ?_
      refine g_aload_n X dX11_may_21 0 rfl ?_
      refine g_getR X fH_X11_19_300 rfl dX11_may_22 ?_
      refine g_getR X fH_X11_214_302 rfl dX11_may_25 ?_
      refine g_iload_n X dX11_may_28 1 rfl ?_
      refine g_iald X aH_361 dX11_may_29 h (fun v2 h => ?_)
      refine g_aload_n X dX11_may_30 0 rfl ?_
      refine g_getR X fH_X11_44_300 rfl dX11_may_31 ?_
      refine g_aload_n X dX11_may_34 0 rfl ?_
      refine g_getR X fH_X11_44_300 rfl dX11_may_35 ?_
      refine g_callOL (rest := [.ref (r (305 + 0)), iv v2, .ref (r 304)]) X (fun u9 h9 => cp_X3_everybody l E r N 0 (by decide) t u9 h9) yy_X3_everybody yi_X3_everybody wdM_RX11_173 (oX3 (o := 0) (by decide)) rfl rfl rfl (Nat.le_of_ble_eq_true rfl) dX11_may_38 ⟨by decide, by decide⟩ ⟨rfl, rfl⟩ h (fun v4 t3 h => ?_)
      refine g_callOI (rest := []) X (fun u9 h9 => cp_X1_attempt l E r N 0 (by decide) v2 v4 t3 u9 h9) yy_X1_attempt yi_X1_attempt wdM_RX11_217 ⟨_, _, oH_304⟩ rfl rfl rfl (Nat.le_of_ble_eq_true rfl) dX11_may_41 ⟨by decide, by decide⟩ ⟨rfl, rfl⟩ h (fun v6 t5 h => ?_)
      refine g_istore_n (lv' := [(2, iv v6), (0, .ref (r 300)), (1, iv a0)]) X dX11_may_44 rfl (by decide) rfl ?_
      refine g_iload_n X dX11_may_45 0 rfl ?_
      refine g_if_eq (tgt := 53) X dX11_may_46 (by decide) h (fun h => ?_) (fun h => ?_)
      · refine g_iload_n X dX11_may_53 0 rfl ?_
        exact g_iret X h dX11_may_54
      · refine g_aload_n X dX11_may_49 1 rfl ?_
        refine g_callOV (rest := []) X (fun u9 h9 => cp_X11_noteFailure l E r N t5 u9 h9) yy_X11_noteFailure yi_X11_noteFailure wdM_RX11_192 ⟨_, _, oH_300⟩ rfl rfl rfl (Nat.le_of_ble_eq_true rfl) dX11_may_50 ⟨by decide, by decide⟩ ⟨rfl, rfl⟩ h (fun t7 h => ?_)
        refine g_iload_n X dX11_may_53 0 rfl ?_
        exact g_iret X h dX11_may_54
    · refine g_iconst X dX11_may_15 ?_
      exact g_iret X h dX11_may_16
set_option maxHeartbeats 4000000 in
set_option maxRecDepth 100000 in
theorem cp_X11_may (l : Launch) (E : cE) (r : Nat → Nat) (N : Nat) (a0 : Int) (t : St) (z : Int × St) (h : f_X11_may N a0 t = some z) : cM l E yX11_may cX11_may 3 (some .int) rm_f_X11_may [.ref (r 300), iv a0] (gW E r shH t) (gqI E (gW E r shH) z) := by
  refine g_of (w := gW E r shH) (by decide) (Nat.le_of_ble_eq_true rfl) ?_
  intro p e s m below meth c A X
  exact g_sub (lv' := [(0, .ref (r 300)), (1, iv a0)]) [0, 1] rfl (b_f_X11_may X h)
theorem yy_X11_may : cY yX11_may cX11_may 3 (some .int) 1 := ⟨wdK_X11_may, wdZ_RX11, by decide +kernel⟩
theorem yi_X11_may : cYi yX11_may := ⟨wdN_X11_may, wdS_X11_may⟩
theorem dX11_resolve_0 : decode cX11_resolve 0 = .ok (.iload_n 1, 1) := by decide +kernel
theorem dX11_resolve_1 : decode cX11_resolve 1 = .ok (.ifCond .lt 21, 3) := by decide +kernel
theorem dX11_resolve_4 : decode cX11_resolve 4 = .ok (.iload_n 1, 1) := by decide +kernel
theorem dX11_resolve_5 : decode cX11_resolve 5 = .ok (.bipush 12, 2) := by decide +kernel
theorem dX11_resolve_7 : decode cX11_resolve 7 = .ok (.if_icmp .gt 15, 3) := by decide +kernel
theorem dX11_resolve_10 : decode cX11_resolve 10 = .ok (.aload_n 0, 1) := by decide +kernel
theorem dX11_resolve_11 : decode cX11_resolve 11 = .ok (.getfield 44, 3) := by decide +kernel
theorem dX11_resolve_14 : decode cX11_resolve 14 = .ok (.getfield 221, 3) := by decide +kernel
theorem dX11_resolve_17 : decode cX11_resolve 17 = .ok (.bipush 16, 2) := by decide +kernel
theorem dX11_resolve_19 : decode cX11_resolve 19 = .ok (.if_icmp .le 6, 3) := by decide +kernel
theorem dX11_resolve_22 : decode cX11_resolve 22 = .ok (.bipush (-3), 2) := by decide +kernel
theorem dX11_resolve_24 : decode cX11_resolve 24 = .ok (.ireturn, 1) := by decide +kernel
theorem dX11_resolve_25 : decode cX11_resolve 25 = .ok (.aload_n 0, 1) := by decide +kernel
theorem dX11_resolve_26 : decode cX11_resolve 26 = .ok (.getfield 75, 3) := by decide +kernel
theorem dX11_resolve_29 : decode cX11_resolve 29 = .ok (.iload_n 1, 1) := by decide +kernel
theorem dX11_resolve_30 : decode cX11_resolve 30 = .ok (.aload_n 0, 1) := by decide +kernel
theorem dX11_resolve_31 : decode cX11_resolve 31 = .ok (.getfield 44, 3) := by decide +kernel
theorem dX11_resolve_34 : decode cX11_resolve 34 = .ok (.aload_n 0, 1) := by decide +kernel
theorem dX11_resolve_35 : decode cX11_resolve 35 = .ok (.getfield 79, 3) := by decide +kernel
theorem dX11_resolve_38 : decode cX11_resolve 38 = .ok (.invokevirtual 222, 3) := by decide +kernel
theorem dX11_resolve_41 : decode cX11_resolve 41 = .ok (.ireturn, 1) := by decide +kernel
abbrev rm_f_X11_resolve : Room := { frames := 7, cells := 0, slots := 0, locals := 202 }
def f_X11_resolve (N : Nat) (a0 : Int) (t : St) : Option (Int × St) :=
    cmpI a0 0 (if a0 < 0 then (some ((-3), t))
    else (cmpI a0 12 (if 12 < a0 then (some ((-3), t))
    else (lt1 (t.1 (305 + 0) 8) fun v1 =>
    cmpI v1 16 (if 16 < v1 then (some ((-3), t))
    else (bdI (f_X9_explore N 0 320 64 a0 t) fun v3 t2 =>
    some (v3, t2)))))))
set_option maxHeartbeats 4000000 in
set_option maxRecDepth 100000 in
theorem b_f_X11_resolve {p : Program} {l : Launch} {e : Env} {s : State} {m : MethodId} {args : Array Value} {below : List Frame} {meth : Method} {c : Code} {E : cE} {A : Nat → Prop} {r : Nat → Nat} {mc ms : Nat} {z : Int × St} {N : Nat} {a0 : Int} {t : St} (X : gX p s m meth c cX11_resolve 2 (some .int) yX11_resolve args E A) (h : f_X11_resolve N a0 t = some z) : gP p l e rm_f_X11_resolve s m args below meth c E A 2 (MQ below ((gqI E (gW E r shH) z) A) args s mc ms A) (gW E r shH) 0 [(0, .ref (r 300)), (1, iv a0)] [] t := by
  unfold f_X11_resolve at h
  refine g_iload_n X dX11_resolve_0 1 rfl ?_
  refine g_if_lt (tgt := 22) X dX11_resolve_1 (by decide) h (fun h => ?_) (fun h => ?_)
  · refine g_bipush X dX11_resolve_22 (by decide) ?_
    exact g_iret X h dX11_resolve_24
  · refine g_iload_n X dX11_resolve_4 1 rfl ?_
    refine g_bipush X dX11_resolve_5 (by decide) ?_
    refine g_icmp_gt (tgt := 22) X dX11_resolve_7 (by decide) h (fun h => ?_) (fun h => ?_)
    · refine g_bipush X dX11_resolve_22 (by decide) ?_
      exact g_iret X h dX11_resolve_24
    · refine g_aload_n X dX11_resolve_10 0 rfl ?_
      refine g_getR X fH_X11_44_300 rfl dX11_resolve_11 ?_
      refine g_getI X (fH_X11_221_o (o := 0) (by decide)) rfl dX11_resolve_14 h (fun v1 h => ?_)
      refine g_bipush X dX11_resolve_17 (by decide) ?_
      refine g_icmp_le (tgt := 25) X dX11_resolve_19 (by decide) h (fun h => ?_) (fun h => ?_)
      · refine g_aload_n X dX11_resolve_25 0 rfl ?_
        refine g_getR X fH_X11_75_300 rfl dX11_resolve_26 ?_
        refine g_iload_n X dX11_resolve_29 1 rfl ?_
        refine g_aload_n X dX11_resolve_30 0 rfl ?_
        refine g_getR X fH_X11_44_300 rfl dX11_resolve_31 ?_
        refine g_aload_n X dX11_resolve_34 0 rfl ?_
        refine g_getR X fH_X11_79_300 rfl dX11_resolve_35 ?_
        refine g_callOI (rest := []) X (fun u9 h9 => cp_X9_explore l E r N 0 (by decide) 320 64 aH_320 a0 t u9 h9) yy_X9_explore yi_X9_explore wdM_RX11_222 ⟨_, _, oH_310⟩ rfl rfl rfl (Nat.le_of_ble_eq_true rfl) dX11_resolve_38 ⟨by decide, by decide⟩ ⟨rfl, rfl⟩ h (fun v3 t2 h => ?_)
        exact g_iret X h dX11_resolve_41
      · refine g_bipush X dX11_resolve_22 (by decide) ?_
        exact g_iret X h dX11_resolve_24
set_option maxHeartbeats 4000000 in
set_option maxRecDepth 100000 in
theorem cp_X11_resolve (l : Launch) (E : cE) (r : Nat → Nat) (N : Nat) (a0 : Int) (t : St) (z : Int × St) (h : f_X11_resolve N a0 t = some z) : cM l E yX11_resolve cX11_resolve 2 (some .int) rm_f_X11_resolve [.ref (r 300), iv a0] (gW E r shH t) (gqI E (gW E r shH) z) := by
  refine g_of (w := gW E r shH) (by decide) (Nat.le_of_ble_eq_true rfl) ?_
  intro p e s m below meth c A X
  exact g_sub (lv' := [(0, .ref (r 300)), (1, iv a0)]) [0, 1] rfl (b_f_X11_resolve X h)
theorem yy_X11_resolve : cY yX11_resolve cX11_resolve 2 (some .int) 1 := ⟨wdK_X11_resolve, wdZ_RX11, by decide +kernel⟩
theorem yi_X11_resolve : cYi yX11_resolve := ⟨wdN_X11_resolve, wdS_X11_resolve⟩
theorem dX11_rows_0 : decode cX11_rows 0 = .ok (.aload_n 0, 1) := by decide +kernel
theorem dX11_rows_1 : decode cX11_rows 1 = .ok (.getfield 75, 3) := by decide +kernel
theorem dX11_rows_4 : decode cX11_rows 4 = .ok (.invokevirtual 226, 3) := by decide +kernel
theorem dX11_rows_7 : decode cX11_rows 7 = .ok (.lreturn, 1) := by decide +kernel
abbrev rm_f_X11_rows : Room := { frames := 1, cells := 0, slots := 0, locals := 20 }
def f_X11_rows (N : Nat) (t : St) : Option (Int64 × St) :=
    bdL (f_X9_countRows N t) fun v2 t1 =>
    some (v2, t1)
set_option maxHeartbeats 4000000 in
set_option maxRecDepth 100000 in
theorem b_f_X11_rows {p : Program} {l : Launch} {e : Env} {s : State} {m : MethodId} {args : Array Value} {below : List Frame} {meth : Method} {c : Code} {E : cE} {A : Nat → Prop} {r : Nat → Nat} {mc ms : Nat} {z : Int64 × St} {N : Nat} {t : St} (X : gX p s m meth c cX11_rows 1 (some .long) yX11_rows args E A) (h : f_X11_rows N t = some z) : gP p l e rm_f_X11_rows s m args below meth c E A 1 (MQ below ((gqL E (gW E r shH) z) A) args s mc ms A) (gW E r shH) 0 [(0, .ref (r 300))] [] t := by
  unfold f_X11_rows at h
  refine g_aload_n X dX11_rows_0 0 rfl ?_
  refine g_getR X fH_X11_75_300 rfl dX11_rows_1 ?_
  refine g_callOL (rest := []) X (fun u9 h9 => cp_X9_countRows l E r N t u9 h9) yy_X9_countRows yi_X9_countRows wdM_RX11_226 ⟨_, _, oH_310⟩ rfl rfl rfl (Nat.le_of_ble_eq_true rfl) dX11_rows_4 ⟨by decide, by decide⟩ ⟨rfl, rfl⟩ h (fun v2 t1 h => ?_)
  exact g_lret X h dX11_rows_7
set_option maxHeartbeats 4000000 in
set_option maxRecDepth 100000 in
theorem cp_X11_rows (l : Launch) (E : cE) (r : Nat → Nat) (N : Nat) (t : St) (z : Int64 × St) (h : f_X11_rows N t = some z) : cM l E yX11_rows cX11_rows 1 (some .long) rm_f_X11_rows [.ref (r 300)] (gW E r shH t) (gqL E (gW E r shH) z) := by
  refine g_of (w := gW E r shH) (by decide) (Nat.le_of_ble_eq_true rfl) ?_
  intro p e s m below meth c A X
  exact g_sub (lv' := [(0, .ref (r 300))]) [0] rfl (b_f_X11_rows X h)
theorem yy_X11_rows : cY yX11_rows cX11_rows 1 (some .long) 0 := ⟨wdK_X11_rows, wdZ_RX11, by decide +kernel⟩
theorem yi_X11_rows : cYi yX11_rows := ⟨wdN_X11_rows, wdS_X11_rows⟩
theorem dX11_row_0 : decode cX11_row 0 = .ok (.aload_n 0, 1) := by decide +kernel
theorem dX11_row_1 : decode cX11_row 1 = .ok (.getfield 75, 3) := by decide +kernel
theorem dX11_row_4 : decode cX11_row 4 = .ok (.iload_n 1, 1) := by decide +kernel
theorem dX11_row_5 : decode cX11_row 5 = .ok (.i2l, 1) := by decide +kernel
theorem dX11_row_6 : decode cX11_row 6 = .ok (.invokevirtual 229, 3) := by decide +kernel
theorem dX11_row_9 : decode cX11_row 9 = .ok (.ireturn, 1) := by decide +kernel
abbrev rm_f_X11_row : Room := { frames := 2, cells := 0, slots := 0, locals := 53 }
def f_X11_row (N : Nat) (a0 : Int) (t : St) : Option (Int × St) :=
    rnI a0 (
    bdI (f_X9_choose N (Int64.ofInt a0) t) fun v2 t1 =>
    boI v2 (some (v2, t1)))
set_option maxHeartbeats 4000000 in
set_option maxRecDepth 100000 in
theorem b_f_X11_row {p : Program} {l : Launch} {e : Env} {s : State} {m : MethodId} {args : Array Value} {below : List Frame} {meth : Method} {c : Code} {E : cE} {A : Nat → Prop} {r : Nat → Nat} {mc ms : Nat} {z : Int × St} {N : Nat} {a0 : Int} {t : St} (X : gX p s m meth c cX11_row 2 (some .boolean) yX11_row args E A) (h : f_X11_row N a0 t = some z) : gP p l e rm_f_X11_row s m args below meth c E A 2 (MQ below ((gqI E (gW E r shH) z) A) args s mc ms A) (gW E r shH) 0 [(0, .ref (r 300)), (1, iv a0)] [] t := by
  unfold f_X11_row at h
  refine g_aload_n X dX11_row_0 0 rfl ?_
  refine g_getR X fH_X11_75_300 rfl dX11_row_1 ?_
  refine g_iload_n X dX11_row_4 1 rfl ?_
  refine g_i2l X dX11_row_5 h (fun h => ?_)
  refine g_callOI (rest := []) X (fun u9 h9 => cp_X9_choose l E r N (Int64.ofInt a0) t u9 h9) yy_X9_choose yi_X9_choose wdM_RX11_229 ⟨_, _, oH_310⟩ rfl rfl rfl (Nat.le_of_ble_eq_true rfl) dX11_row_6 ⟨by decide, by decide⟩ ⟨rfl, rfl⟩ h (fun v2 t1 h => ?_)
  exact g_zret X h dX11_row_9
set_option maxHeartbeats 4000000 in
set_option maxRecDepth 100000 in
theorem cp_X11_row (l : Launch) (E : cE) (r : Nat → Nat) (N : Nat) (a0 : Int) (t : St) (z : Int × St) (h : f_X11_row N a0 t = some z) : cM l E yX11_row cX11_row 2 (some .boolean) rm_f_X11_row [.ref (r 300), iv a0] (gW E r shH t) (gqI E (gW E r shH) z) := by
  refine g_of (w := gW E r shH) (by decide) (Nat.le_of_ble_eq_true rfl) ?_
  intro p e s m below meth c A X
  exact g_sub (lv' := [(0, .ref (r 300)), (1, iv a0)]) [0, 1] rfl (b_f_X11_row X h)
theorem yy_X11_row : cY yX11_row cX11_row 2 (some .boolean) 1 := ⟨wdK_X11_row, wdZ_RX11, by decide +kernel⟩
theorem yi_X11_row : cYi yX11_row := ⟨wdN_X11_row, wdS_X11_row⟩
theorem dX11_highProduct_0 : decode cX11_highProduct 0 = .ok (.lload 4, 2) := by decide +kernel
theorem dX11_highProduct_2 : decode cX11_highProduct 2 = .ok (.bipush 32, 2) := by decide +kernel
theorem dX11_highProduct_4 : decode cX11_highProduct 4 = .ok (.lushr, 1) := by decide +kernel
theorem dX11_highProduct_5 : decode cX11_highProduct 5 = .ok (.lstore 6, 2) := by decide +kernel
theorem dX11_highProduct_7 : decode cX11_highProduct 7 = .ok (.lload 4, 2) := by decide +kernel
theorem dX11_highProduct_9 : decode cX11_highProduct 9 = .ok (.ldc2_w 233, 3) := by decide +kernel
theorem dX11_highProduct_12 : decode cX11_highProduct 12 = .ok (.land, 1) := by decide +kernel
theorem dX11_highProduct_13 : decode cX11_highProduct 13 = .ok (.lstore 8, 2) := by decide +kernel
theorem dX11_highProduct_15 : decode cX11_highProduct 15 = .ok (.lload_n 0, 1) := by decide +kernel
theorem dX11_highProduct_16 : decode cX11_highProduct 16 = .ok (.lload 8, 2) := by decide +kernel
theorem dX11_highProduct_18 : decode cX11_highProduct 18 = .ok (.lmul, 1) := by decide +kernel
theorem dX11_highProduct_19 : decode cX11_highProduct 19 = .ok (.lload_n 2, 1) := by decide +kernel
theorem dX11_highProduct_20 : decode cX11_highProduct 20 = .ok (.lload 8, 2) := by decide +kernel
theorem dX11_highProduct_22 : decode cX11_highProduct 22 = .ok (.lmul, 1) := by decide +kernel
theorem dX11_highProduct_23 : decode cX11_highProduct 23 = .ok (.bipush 32, 2) := by decide +kernel
theorem dX11_highProduct_25 : decode cX11_highProduct 25 = .ok (.lushr, 1) := by decide +kernel
theorem dX11_highProduct_26 : decode cX11_highProduct 26 = .ok (.ladd, 1) := by decide +kernel
theorem dX11_highProduct_27 : decode cX11_highProduct 27 = .ok (.lstore 10, 2) := by decide +kernel
theorem dX11_highProduct_29 : decode cX11_highProduct 29 = .ok (.lload_n 2, 1) := by decide +kernel
theorem dX11_highProduct_30 : decode cX11_highProduct 30 = .ok (.lload 6, 2) := by decide +kernel
theorem dX11_highProduct_32 : decode cX11_highProduct 32 = .ok (.lmul, 1) := by decide +kernel
theorem dX11_highProduct_33 : decode cX11_highProduct 33 = .ok (.lload 10, 2) := by decide +kernel
theorem dX11_highProduct_35 : decode cX11_highProduct 35 = .ok (.ldc2_w 233, 3) := by decide +kernel
theorem dX11_highProduct_38 : decode cX11_highProduct 38 = .ok (.land, 1) := by decide +kernel
theorem dX11_highProduct_39 : decode cX11_highProduct 39 = .ok (.ladd, 1) := by decide +kernel
theorem dX11_highProduct_40 : decode cX11_highProduct 40 = .ok (.lstore 12, 2) := by decide +kernel
theorem dX11_highProduct_42 : decode cX11_highProduct 42 = .ok (.lload_n 0, 1) := by decide +kernel
theorem dX11_highProduct_43 : decode cX11_highProduct 43 = .ok (.lload 6, 2) := by decide +kernel
theorem dX11_highProduct_45 : decode cX11_highProduct 45 = .ok (.lmul, 1) := by decide +kernel
theorem dX11_highProduct_46 : decode cX11_highProduct 46 = .ok (.lload 10, 2) := by decide +kernel
theorem dX11_highProduct_48 : decode cX11_highProduct 48 = .ok (.bipush 32, 2) := by decide +kernel
theorem dX11_highProduct_50 : decode cX11_highProduct 50 = .ok (.lushr, 1) := by decide +kernel
theorem dX11_highProduct_51 : decode cX11_highProduct 51 = .ok (.ladd, 1) := by decide +kernel
theorem dX11_highProduct_52 : decode cX11_highProduct 52 = .ok (.lload 12, 2) := by decide +kernel
theorem dX11_highProduct_54 : decode cX11_highProduct 54 = .ok (.bipush 32, 2) := by decide +kernel
theorem dX11_highProduct_56 : decode cX11_highProduct 56 = .ok (.lushr, 1) := by decide +kernel
theorem dX11_highProduct_57 : decode cX11_highProduct 57 = .ok (.ladd, 1) := by decide +kernel
theorem dX11_highProduct_58 : decode cX11_highProduct 58 = .ok (.lreturn, 1) := by decide +kernel
abbrev rm_f_X11_highProduct : Room := { frames := 0, cells := 0, slots := 0, locals := 0 }
def f_X11_highProduct (N : Nat) (a0 : Int64) (a1 : Int64) (a2 : Int64) (t : St) : Option (Int64 × St) :=
    some (((a0 * (ushrL a2 32)) + (ushrL ((a0 * (a2 &&& (4294967295 : Int64))) + (ushrL (a1 * (a2 &&& (4294967295 : Int64))) 32)) 32)) + (ushrL ((a1 * (ushrL a2 32)) + (((a0 * (a2 &&& (4294967295 : Int64))) + (ushrL (a1 * (a2 &&& (4294967295 : Int64))) 32)) &&& (4294967295 : Int64))) 32), t)
set_option maxHeartbeats 4000000 in
set_option maxRecDepth 100000 in
theorem b_f_X11_highProduct {p : Program} {l : Launch} {e : Env} {s : State} {m : MethodId} {args : Array Value} {below : List Frame} {meth : Method} {c : Code} {E : cE} {A : Nat → Prop} {r : Nat → Nat} {mc ms : Nat} {z : Int64 × St} {N : Nat} {a0 : Int64} {a1 : Int64} {a2 : Int64} {t : St} (X : gX p s m meth c cX11_highProduct 14 (some .long) yX11_highProduct args E A) (h : f_X11_highProduct N a0 a1 a2 t = some z) : gP p l e rm_f_X11_highProduct s m args below meth c E A 14 (MQ below ((gqL E (gW E r shH) z) A) args s mc ms A) (gW E r shH) 0 [(0, .long a0), (2, .long a1), (4, .long a2)] [] t := by
  unfold f_X11_highProduct at h
  refine g_lload X dX11_highProduct_0 2 rfl ?_
  refine g_bipush X dX11_highProduct_2 (by decide) ?_
  refine g_lushr X dX11_highProduct_4 ?_
  refine g_lstore (lv' := [(6, .long (ushrL a2 32)), (0, .long a0), (2, .long a1), (4, .long a2)]) X dX11_highProduct_5 (by decide) rfl ?_
  refine g_lload X dX11_highProduct_7 3 rfl ?_
  refine g_ldc2 X rfl wdL_RX11_233 dX11_highProduct_9 ?_
  refine g_land X dX11_highProduct_12 ?_
  refine g_lstore (lv' := [(8, .long (a2 &&& (4294967295 : Int64))), (6, .long (ushrL a2 32)), (0, .long a0), (2, .long a1), (4, .long a2)]) X dX11_highProduct_13 (by decide) rfl ?_
  refine g_lload_n X dX11_highProduct_15 2 rfl ?_
  refine g_lload X dX11_highProduct_16 0 rfl ?_
  refine g_lmul X dX11_highProduct_18 ?_
  refine g_lload_n X dX11_highProduct_19 3 rfl ?_
  refine g_lload X dX11_highProduct_20 0 rfl ?_
  refine g_lmul X dX11_highProduct_22 ?_
  refine g_bipush X dX11_highProduct_23 (by decide) ?_
  refine g_lushr X dX11_highProduct_25 ?_
  refine g_ladd X dX11_highProduct_26 ?_
  refine g_lstore (lv' := [(10, .long ((a0 * (a2 &&& (4294967295 : Int64))) + (ushrL (a1 * (a2 &&& (4294967295 : Int64))) 32))), (8, .long (a2 &&& (4294967295 : Int64))), (6, .long (ushrL a2 32)), (0, .long a0), (2, .long a1), (4, .long a2)]) X dX11_highProduct_27 (by decide) rfl ?_
  refine g_lload_n X dX11_highProduct_29 4 rfl ?_
  refine g_lload X dX11_highProduct_30 2 rfl ?_
  refine g_lmul X dX11_highProduct_32 ?_
  refine g_lload X dX11_highProduct_33 0 rfl ?_
  refine g_ldc2 X rfl wdL_RX11_233 dX11_highProduct_35 ?_
  refine g_land X dX11_highProduct_38 ?_
  refine g_ladd X dX11_highProduct_39 ?_
  refine g_lstore (lv' := [(12, .long ((a1 * (ushrL a2 32)) + (((a0 * (a2 &&& (4294967295 : Int64))) + (ushrL (a1 * (a2 &&& (4294967295 : Int64))) 32)) &&& (4294967295 : Int64)))), (10, .long ((a0 * (a2 &&& (4294967295 : Int64))) + (ushrL (a1 * (a2 &&& (4294967295 : Int64))) 32))), (8, .long (a2 &&& (4294967295 : Int64))), (6, .long (ushrL a2 32)), (0, .long a0), (2, .long a1), (4, .long a2)]) X dX11_highProduct_40 (by decide) rfl ?_
  refine g_lload_n X dX11_highProduct_42 4 rfl ?_
  refine g_lload X dX11_highProduct_43 3 rfl ?_
  refine g_lmul X dX11_highProduct_45 ?_
  refine g_lload X dX11_highProduct_46 1 rfl ?_
  refine g_bipush X dX11_highProduct_48 (by decide) ?_
  refine g_lushr X dX11_highProduct_50 ?_
  refine g_ladd X dX11_highProduct_51 ?_
  refine g_lload X dX11_highProduct_52 0 rfl ?_
  refine g_bipush X dX11_highProduct_54 (by decide) ?_
  refine g_lushr X dX11_highProduct_56 ?_
  refine g_ladd X dX11_highProduct_57 ?_
  exact g_lret X h dX11_highProduct_58
set_option maxHeartbeats 4000000 in
set_option maxRecDepth 100000 in
theorem cp_X11_highProduct (l : Launch) (E : cE) (r : Nat → Nat) (N : Nat) (a0 : Int64) (a1 : Int64) (a2 : Int64) (t : St) (z : Int64 × St) (h : f_X11_highProduct N a0 a1 a2 t = some z) : cM l E yX11_highProduct cX11_highProduct 14 (some .long) rm_f_X11_highProduct [.long a0, .long a1, .long a2] (gW E r shH t) (gqL E (gW E r shH) z) := by
  refine g_of (w := gW E r shH) (by decide) (Nat.le_of_ble_eq_true rfl) ?_
  intro p e s m below meth c A X
  exact g_sub (lv' := [(0, .long a0), (2, .long a1), (4, .long a2)]) [0, 1, 2] rfl (b_f_X11_highProduct X h)
theorem yy_X11_highProduct : cY yX11_highProduct cX11_highProduct 14 (some .long) 3 := ⟨wdK_X11_highProduct, wdZ_RX11, by decide +kernel⟩
theorem dX11_draw_0 : decode cX11_draw 0 = .ok (.aload_n 0, 1) := by decide +kernel
theorem dX11_draw_1 : decode cX11_draw 1 = .ok (.getfield 75, 3) := by decide +kernel
theorem dX11_draw_4 : decode cX11_draw 4 = .ok (.iload_n 1, 1) := by decide +kernel
theorem dX11_draw_5 : decode cX11_draw 5 = .ok (.i2l, 1) := by decide +kernel
theorem dX11_draw_6 : decode cX11_draw 6 = .ok (.ldc2_w 233, 3) := by decide +kernel
theorem dX11_draw_9 : decode cX11_draw 9 = .ok (.land, 1) := by decide +kernel
theorem dX11_draw_10 : decode cX11_draw 10 = .ok (.iload_n 2, 1) := by decide +kernel
theorem dX11_draw_11 : decode cX11_draw 11 = .ok (.i2l, 1) := by decide +kernel
theorem dX11_draw_12 : decode cX11_draw 12 = .ok (.ldc2_w 233, 3) := by decide +kernel
theorem dX11_draw_15 : decode cX11_draw 15 = .ok (.land, 1) := by decide +kernel
theorem dX11_draw_16 : decode cX11_draw 16 = .ok (.aload_n 0, 1) := by decide +kernel
theorem dX11_draw_17 : decode cX11_draw 17 = .ok (.getfield 75, 3) := by decide +kernel
theorem dX11_draw_20 : decode cX11_draw 20 = .ok (.invokevirtual 226, 3) := by decide +kernel
theorem dX11_draw_23 : decode cX11_draw 23 = .ok (.invokestatic 235, 3) := by decide +kernel
theorem dX11_draw_26 : decode cX11_draw 26 = .ok (.invokevirtual 229, 3) := by decide +kernel
theorem dX11_draw_29 : decode cX11_draw 29 = .ok (.ireturn, 1) := by decide +kernel
abbrev rm_f_X11_draw : Room := { frames := 2, cells := 0, slots := 0, locals := 53 }
def f_X11_draw (N : Nat) (a0 : Int) (a1 : Int) (t : St) : Option (Int × St) :=
    rnI a0 (
    rnI a1 (
    bdL (f_X9_countRows N t) fun v2 t1 =>
    bdL (f_X11_highProduct N ((Int64.ofInt a0) &&& (4294967295 : Int64)) ((Int64.ofInt a1) &&& (4294967295 : Int64)) v2 t1) fun v4 t3 =>
    bdI (f_X9_choose N v4 t3) fun v6 t5 =>
    boI v6 (some (v6, t5))))
set_option maxHeartbeats 4000000 in
set_option maxRecDepth 100000 in
theorem b_f_X11_draw {p : Program} {l : Launch} {e : Env} {s : State} {m : MethodId} {args : Array Value} {below : List Frame} {meth : Method} {c : Code} {E : cE} {A : Nat → Prop} {r : Nat → Nat} {mc ms : Nat} {z : Int × St} {N : Nat} {a0 : Int} {a1 : Int} {t : St} (X : gX p s m meth c cX11_draw 3 (some .boolean) yX11_draw args E A) (h : f_X11_draw N a0 a1 t = some z) : gP p l e rm_f_X11_draw s m args below meth c E A 3 (MQ below ((gqI E (gW E r shH) z) A) args s mc ms A) (gW E r shH) 0 [(0, .ref (r 300)), (1, iv a0), (2, iv a1)] [] t := by
  unfold f_X11_draw at h
  refine g_aload_n X dX11_draw_0 0 rfl ?_
  refine g_getR X fH_X11_75_300 rfl dX11_draw_1 ?_
  refine g_iload_n X dX11_draw_4 1 rfl ?_
  refine g_i2l X dX11_draw_5 h (fun h => ?_)
  refine g_ldc2 X rfl wdL_RX11_233 dX11_draw_6 ?_
  refine g_land X dX11_draw_9 ?_
  refine g_iload_n X dX11_draw_10 2 rfl ?_
  refine g_i2l X dX11_draw_11 h (fun h => ?_)
  refine g_ldc2 X rfl wdL_RX11_233 dX11_draw_12 ?_
  refine g_land X dX11_draw_15 ?_
  refine g_aload_n X dX11_draw_16 0 rfl ?_
  refine g_getR X fH_X11_75_300 rfl dX11_draw_17 ?_
  refine g_callOL (rest := [.long ((Int64.ofInt a1) &&& (4294967295 : Int64)), .long ((Int64.ofInt a0) &&& (4294967295 : Int64)), .ref (r 310)]) X (fun u9 h9 => cp_X9_countRows l E r N t u9 h9) yy_X9_countRows yi_X9_countRows wdM_RX11_226 ⟨_, _, oH_310⟩ rfl rfl rfl (Nat.le_of_ble_eq_true rfl) dX11_draw_20 ⟨by decide, by decide⟩ ⟨rfl, rfl⟩ h (fun v2 t1 h => ?_)
  refine g_callsL (rest := [.ref (r 310)]) X (fun u9 h9 => cp_X11_highProduct l E r N ((Int64.ofInt a0) &&& (4294967295 : Int64)) ((Int64.ofInt a1) &&& (4294967295 : Int64)) v2 t1 u9 h9) yy_X11_highProduct wdT_X11_highProduct wdM_RX11_235 rfl rfl (Nat.le_of_ble_eq_true rfl) dX11_draw_23 ⟨by decide, by decide⟩ ⟨rfl, rfl⟩ h (fun v4 t3 h => ?_)
  refine g_callOI (rest := []) X (fun u9 h9 => cp_X9_choose l E r N v4 t3 u9 h9) yy_X9_choose yi_X9_choose wdM_RX11_229 ⟨_, _, oH_310⟩ rfl rfl rfl (Nat.le_of_ble_eq_true rfl) dX11_draw_26 ⟨by decide, by decide⟩ ⟨rfl, rfl⟩ h (fun v6 t5 h => ?_)
  exact g_zret X h dX11_draw_29
set_option maxHeartbeats 4000000 in
set_option maxRecDepth 100000 in
theorem cp_X11_draw (l : Launch) (E : cE) (r : Nat → Nat) (N : Nat) (a0 : Int) (a1 : Int) (t : St) (z : Int × St) (h : f_X11_draw N a0 a1 t = some z) : cM l E yX11_draw cX11_draw 3 (some .boolean) rm_f_X11_draw [.ref (r 300), iv a0, iv a1] (gW E r shH t) (gqI E (gW E r shH) z) := by
  refine g_of (w := gW E r shH) (by decide) (Nat.le_of_ble_eq_true rfl) ?_
  intro p e s m below meth c A X
  exact g_sub (lv' := [(0, .ref (r 300)), (1, iv a0), (2, iv a1)]) [0, 1, 2] rfl (b_f_X11_draw X h)
theorem yy_X11_draw : cY yX11_draw cX11_draw 3 (some .boolean) 2 := ⟨wdK_X11_draw, wdZ_RX11, by decide +kernel⟩
theorem yi_X11_draw : cYi yX11_draw := ⟨wdN_X11_draw, wdS_X11_draw⟩
theorem dX11_cheapest_0 : decode cX11_cheapest 0 = .ok (.aload_n 0, 1) := by decide +kernel
theorem dX11_cheapest_1 : decode cX11_cheapest 1 = .ok (.getfield 75, 3) := by decide +kernel
theorem dX11_cheapest_4 : decode cX11_cheapest 4 = .ok (.invokevirtual 239, 3) := by decide +kernel
theorem dX11_cheapest_7 : decode cX11_cheapest 7 = .ok (.ireturn, 1) := by decide +kernel
abbrev rm_f_X11_cheapest : Room := { frames := 2, cells := 0, slots := 0, locals := 49 }
def f_X11_cheapest (N : Nat) (t : St) : Option (Int × St) :=
    bdI (f_X9_chooseCheapest N t) fun v2 t1 =>
    some (v2, t1)
set_option maxHeartbeats 4000000 in
set_option maxRecDepth 100000 in
theorem b_f_X11_cheapest {p : Program} {l : Launch} {e : Env} {s : State} {m : MethodId} {args : Array Value} {below : List Frame} {meth : Method} {c : Code} {E : cE} {A : Nat → Prop} {r : Nat → Nat} {mc ms : Nat} {z : Int × St} {N : Nat} {t : St} (X : gX p s m meth c cX11_cheapest 1 (some .int) yX11_cheapest args E A) (h : f_X11_cheapest N t = some z) : gP p l e rm_f_X11_cheapest s m args below meth c E A 1 (MQ below ((gqI E (gW E r shH) z) A) args s mc ms A) (gW E r shH) 0 [(0, .ref (r 300))] [] t := by
  unfold f_X11_cheapest at h
  refine g_aload_n X dX11_cheapest_0 0 rfl ?_
  refine g_getR X fH_X11_75_300 rfl dX11_cheapest_1 ?_
  refine g_callOI (rest := []) X (fun u9 h9 => cp_X9_chooseCheapest l E r N t u9 h9) yy_X9_chooseCheapest yi_X9_chooseCheapest wdM_RX11_239 ⟨_, _, oH_310⟩ rfl rfl rfl (Nat.le_of_ble_eq_true rfl) dX11_cheapest_4 ⟨by decide, by decide⟩ ⟨rfl, rfl⟩ h (fun v2 t1 h => ?_)
  exact g_iret X h dX11_cheapest_7
set_option maxHeartbeats 4000000 in
set_option maxRecDepth 100000 in
theorem cp_X11_cheapest (l : Launch) (E : cE) (r : Nat → Nat) (N : Nat) (t : St) (z : Int × St) (h : f_X11_cheapest N t = some z) : cM l E yX11_cheapest cX11_cheapest 1 (some .int) rm_f_X11_cheapest [.ref (r 300)] (gW E r shH t) (gqI E (gW E r shH) z) := by
  refine g_of (w := gW E r shH) (by decide) (Nat.le_of_ble_eq_true rfl) ?_
  intro p e s m below meth c A X
  exact g_sub (lv' := [(0, .ref (r 300))]) [0] rfl (b_f_X11_cheapest X h)
theorem yy_X11_cheapest : cY yX11_cheapest cX11_cheapest 1 (some .int) 0 := ⟨wdK_X11_cheapest, wdZ_RX11, by decide +kernel⟩
theorem yi_X11_cheapest : cYi yX11_cheapest := ⟨wdN_X11_cheapest, wdS_X11_cheapest⟩
theorem dX11_found_0 : decode cX11_found 0 = .ok (.aload_n 0, 1) := by decide +kernel
theorem dX11_found_1 : decode cX11_found 1 = .ok (.getfield 75, 3) := by decide +kernel
theorem dX11_found_4 : decode cX11_found 4 = .ok (.iload_n 1, 1) := by decide +kernel
theorem dX11_found_5 : decode cX11_found 5 = .ok (.invokevirtual 242, 3) := by decide +kernel
theorem dX11_found_8 : decode cX11_found 8 = .ok (.ireturn, 1) := by decide +kernel
abbrev rm_f_X11_found : Room := { frames := 1, cells := 0, slots := 0, locals := 21 }
def f_X11_found (N : Nat) (a0 : Int) (t : St) : Option (Int × St) :=
    bdI (f_X9_chosenStep N a0 t) fun v2 t1 =>
    some (v2, t1)
set_option maxHeartbeats 4000000 in
set_option maxRecDepth 100000 in
theorem b_f_X11_found {p : Program} {l : Launch} {e : Env} {s : State} {m : MethodId} {args : Array Value} {below : List Frame} {meth : Method} {c : Code} {E : cE} {A : Nat → Prop} {r : Nat → Nat} {mc ms : Nat} {z : Int × St} {N : Nat} {a0 : Int} {t : St} (X : gX p s m meth c cX11_found 2 (some .int) yX11_found args E A) (h : f_X11_found N a0 t = some z) : gP p l e rm_f_X11_found s m args below meth c E A 2 (MQ below ((gqI E (gW E r shH) z) A) args s mc ms A) (gW E r shH) 0 [(0, .ref (r 300)), (1, iv a0)] [] t := by
  unfold f_X11_found at h
  refine g_aload_n X dX11_found_0 0 rfl ?_
  refine g_getR X fH_X11_75_300 rfl dX11_found_1 ?_
  refine g_iload_n X dX11_found_4 1 rfl ?_
  refine g_callOI (rest := []) X (fun u9 h9 => cp_X9_chosenStep l E r N a0 t u9 h9) yy_X9_chosenStep yi_X9_chosenStep wdM_RX11_242 ⟨_, _, oH_310⟩ rfl rfl rfl (Nat.le_of_ble_eq_true rfl) dX11_found_5 ⟨by decide, by decide⟩ ⟨rfl, rfl⟩ h (fun v2 t1 h => ?_)
  exact g_iret X h dX11_found_8
set_option maxHeartbeats 4000000 in
set_option maxRecDepth 100000 in
theorem cp_X11_found (l : Launch) (E : cE) (r : Nat → Nat) (N : Nat) (a0 : Int) (t : St) (z : Int × St) (h : f_X11_found N a0 t = some z) : cM l E yX11_found cX11_found 2 (some .int) rm_f_X11_found [.ref (r 300), iv a0] (gW E r shH t) (gqI E (gW E r shH) z) := by
  refine g_of (w := gW E r shH) (by decide) (Nat.le_of_ble_eq_true rfl) ?_
  intro p e s m below meth c A X
  exact g_sub (lv' := [(0, .ref (r 300)), (1, iv a0)]) [0, 1] rfl (b_f_X11_found X h)
theorem yy_X11_found : cY yX11_found cX11_found 2 (some .int) 1 := ⟨wdK_X11_found, wdZ_RX11, by decide +kernel⟩
theorem yi_X11_found : cYi yX11_found := ⟨wdN_X11_found, wdS_X11_found⟩
theorem dX11_times_0 : decode cX11_times 0 = .ok (.iload_n 1, 1) := by decide +kernel
theorem dX11_times_1 : decode cX11_times 1 = .ok (.ifCond .lt 25, 3) := by decide +kernel
theorem dX11_times_4 : decode cX11_times 4 = .ok (.iload_n 1, 1) := by decide +kernel
theorem dX11_times_5 : decode cX11_times 5 = .ok (.aload_n 0, 1) := by decide +kernel
theorem dX11_times_6 : decode cX11_times 6 = .ok (.getfield 19, 3) := by decide +kernel
theorem dX11_times_9 : decode cX11_times 9 = .ok (.getfield 164, 3) := by decide +kernel
theorem dX11_times_12 : decode cX11_times 12 = .ok (.getfield 168, 3) := by decide +kernel
theorem dX11_times_15 : decode cX11_times 15 = .ok (.if_icmp .ge 11, 3) := by decide +kernel
theorem dX11_times_18 : decode cX11_times 18 = .ok (.iload_n 2, 1) := by decide +kernel
theorem dX11_times_19 : decode cX11_times 19 = .ok (.iload_n 3, 1) := by decide +kernel
theorem dX11_times_20 : decode cX11_times 20 = .ok (.invokestatic 144, 3) := by decide +kernel
theorem dX11_times_23 : decode cX11_times 23 = .ok (.ifCond .ne 5, 3) := by decide +kernel
theorem dX11_times_26 : decode cX11_times 26 = .ok (.iconst (-1), 1) := by decide +kernel
theorem dX11_times_27 : decode cX11_times 27 = .ok (.ireturn, 1) := by decide +kernel
theorem dX11_times_28 : decode cX11_times 28 = .ok (.aload_n 0, 1) := by decide +kernel
theorem dX11_times_29 : decode cX11_times 29 = .ok (.getfield 48, 3) := by decide +kernel
theorem dX11_times_32 : decode cX11_times 32 = .ok (.iload_n 2, 1) := by decide +kernel
theorem dX11_times_33 : decode cX11_times 33 = .ok (.iload_n 3, 1) := by decide +kernel
theorem dX11_times_34 : decode cX11_times 34 = .ok (.invokevirtual 93, 3) := by decide +kernel
theorem dX11_times_37 : decode cX11_times 37 = .ok (.aload_n 0, 1) := by decide +kernel
theorem dX11_times_38 : decode cX11_times 38 = .ok (.getfield 60, 3) := by decide +kernel
theorem dX11_times_41 : decode cX11_times 41 = .ok (.invokevirtual 248, 3) := by decide +kernel
theorem dX11_times_44 : decode cX11_times 44 = .ok (.iconst 1, 1) := by decide +kernel
theorem dX11_times_45 : decode cX11_times 45 = .ok (.istore 4, 2) := by decide +kernel
theorem dX11_times_47 : decode cX11_times 47 = .ok (.iload 4, 2) := by decide +kernel
theorem dX11_times_49 : decode cX11_times 49 = .ok (.bipush 100, 2) := by decide +kernel
theorem dX11_times_51 : decode cX11_times 51 = .ok (.if_icmp .gt 100, 3) := by decide +kernel
theorem dX11_times_54 : decode cX11_times 54 = .ok (.aload_n 0, 1) := by decide +kernel
theorem dX11_times_55 : decode cX11_times 55 = .ok (.getfield 60, 3) := by decide +kernel
theorem dX11_times_58 : decode cX11_times 58 = .ok (.iload_n 1, 1) := by decide +kernel
theorem dX11_times_59 : decode cX11_times 59 = .ok (.aload_n 0, 1) := by decide +kernel
theorem dX11_times_60 : decode cX11_times 60 = .ok (.getfield 48, 3) := by decide +kernel
theorem dX11_times_63 : decode cX11_times 63 = .ok (.invokevirtual 173, 3) := by decide +kernel
theorem dX11_times_66 : decode cX11_times 66 = .ok (.invokevirtual 177, 3) := by decide +kernel
theorem dX11_times_69 : decode cX11_times 69 = .ok (.iconst 1, 1) := by decide +kernel
theorem dX11_times_70 : decode cX11_times 70 = .ok (.istore 5, 2) := by decide +kernel
theorem dX11_times_72 : decode cX11_times 72 = .ok (.iconst 0, 1) := by decide +kernel
theorem dX11_times_73 : decode cX11_times 73 = .ok (.istore 6, 2) := by decide +kernel
theorem dX11_times_75 : decode cX11_times 75 = .ok (.iload 6, 2) := by decide +kernel
theorem dX11_times_77 : decode cX11_times 77 = .ok (.ldc 251, 2) := by decide +kernel
theorem dX11_times_79 : decode cX11_times 79 = .ok (.if_icmp .ge 28, 3) := by decide +kernel
theorem dX11_times_82 : decode cX11_times 82 = .ok (.iload 5, 2) := by decide +kernel
theorem dX11_times_84 : decode cX11_times 84 = .ok (.iconst 1, 1) := by decide +kernel
theorem dX11_times_85 : decode cX11_times 85 = .ok (.if_icmp .ne 22, 3) := by decide +kernel
theorem dX11_times_88 : decode cX11_times 88 = .ok (.aload_n 0, 1) := by decide +kernel
theorem dX11_times_89 : decode cX11_times 89 = .ok (.getfield 60, 3) := by decide +kernel
theorem dX11_times_92 : decode cX11_times 92 = .ok (.aload_n 0, 1) := by decide +kernel
theorem dX11_times_93 : decode cX11_times 93 = .ok (.getfield 48, 3) := by decide +kernel
theorem dX11_times_96 : decode cX11_times 96 = .ok (.invokevirtual 185, 3) := by decide +kernel
theorem dX11_times_99 : decode cX11_times 99 = .ok (.istore 5, 2) := by decide +kernel
theorem dX11_times_101 : decode cX11_times 101 = .ok (.iinc 6 1, 3) := by decide +kernel
theorem dX11_times_104 : decode cX11_times 104 = .ok (.goto (-29), 3) := by decide +kernel
theorem dX11_times_107 : decode cX11_times 107 = .ok (.iload 5, 2) := by decide +kernel
theorem dX11_times_109 : decode cX11_times 109 = .ok (.ifCond .eq 16, 3) := by decide +kernel
theorem dX11_times_112 : decode cX11_times 112 = .ok (.iload 5, 2) := by decide +kernel
theorem dX11_times_114 : decode cX11_times 114 = .ok (.iconst 4, 1) := by decide +kernel
theorem dX11_times_115 : decode cX11_times 115 = .ok (.if_icmp .ne 8, 3) := by decide +kernel
theorem dX11_times_118 : decode cX11_times 118 = .ok (.bipush (-2), 2) := by decide +kernel
theorem dX11_times_120 : decode cX11_times 120 = .ok (.goto 4, 3) := by decide +kernel
theorem dX11_times_123 : decode cX11_times 123 = .ok (.iconst (-1), 1) := by decide +kernel
theorem dX11_times_124 : decode cX11_times 124 = .ok (.ireturn, 1) := by decide +kernel
theorem dX11_times_125 : decode cX11_times 125 = .ok (.aload_n 0, 1) := by decide +kernel
theorem dX11_times_126 : decode cX11_times 126 = .ok (.getfield 48, 3) := by decide +kernel
theorem dX11_times_129 : decode cX11_times 129 = .ok (.aload_n 0, 1) := by decide +kernel
theorem dX11_times_130 : decode cX11_times 130 = .ok (.getfield 48, 3) := by decide +kernel
theorem dX11_times_133 : decode cX11_times 133 = .ok (.getfield 252, 3) := by decide +kernel
theorem dX11_times_136 : decode cX11_times 136 = .ok (.invokevirtual 255, 3) := by decide +kernel
theorem dX11_times_139 : decode cX11_times 139 = .ok (.ifCond .eq 6, 3) := by decide +kernel
theorem dX11_times_142 : decode cX11_times 142 = .ok (.iload 4, 2) := by decide +kernel
theorem dX11_times_144 : decode cX11_times 144 = .ok (.ireturn, 1) := by decide +kernel
theorem dX11_times_145 : decode cX11_times 145 = .ok (.iinc 4 1, 3) := by decide +kernel
theorem dX11_times_148 : decode cX11_times 148 = .ok (.goto (-101), 3) := by decide +kernel
theorem dX11_times_151 : decode cX11_times 151 = .ok (.iconst (-1), 1) := by decide +kernel
theorem dX11_times_152 : decode cX11_times 152 = .ok (.ireturn, 1) := by decide +kernel
abbrev rm_f_X11_times : Room := { frames := 7, cells := 0, slots := 0, locals := 198 }
def f_X11_times_L75 (N : Nat) (K19 : (Int → St → Option (Int × St))) : Nat → Int → Int → St → Option (Int × St)
  | 0, _, _, _ => none
  | n9 + 1, x16, x17, t18 =>
    cmpI x17 1000000 (if x17 < 1000000 then (cmpI x16 1 (if x16 = 1 then (bdI (f_X8_goOn N 1 1 t18) fun v21 t20 =>
    f_X11_times_L75 N K19 n9 v21 (x17 + 1) t20)
    else (K19 x16 t18)))
    else (K19 x16 t18))
def f_X11_times_L47 (N : Nat) (K9 : (Int → St → Option (Int × St))) (K10 : (St → Option (Int × St))) (y6 : Int) : Nat → Int → St → Option (Int × St)
  | 0, _, _ => none
  | n9 + 1, x7, t8 =>
    cmpI x7 100 (if 100 < x7 then (K10 t8)
    else (bdL (f_X3_everybody N 1 t8) fun v12 t11 =>
    bdV (f_X8_start N 1 y6 v12 t11) fun t13 =>
    f_X11_times_L75 N (fun (k22 : Int) (t23 : St) => cmpI k22 0 (if k22 = 0 then (bdI (f_X3_isAt N 1 (394 + 10 * 1) 64 t23) fun v25 t24 =>
    cmpI v25 0 (if v25 = 0 then (f_X11_times_L47 N K9 K10 y6 n9 (x7 + 1) t24)
    else (some (x7, t24))))
    else (K9 k22 t23))) N 1 0 t13))
def f_X11_times (N : Nat) (a0 : Int) (a1 : Int) (a2 : Int) (t : St) : Option (Int × St) :=
    cmpI a0 0 (if a0 < 0 then (some ((-1), t))
    else (lt1 (t.1 (312 + 2) 2) fun v1 =>
    cmpI a0 v1 (if a0 < v1 then (bdI (f_X3_isSet N a1 a2 t) fun v3 t2 =>
    cmpI v3 0 (if v3 = 0 then (some ((-1), t2))
    else (bdV (f_X3_lay N 1 a1 a2 t2) fun t4 =>
    bdV (f_X8_limit N 1 t4) fun t5 =>
    f_X11_times_L47 N (fun (k26 : Int) (t27 : St) => cmpI k26 4 (if k26 = 4 then (some ((-2), t27))
    else (some ((-1), t27)))) (fun (t28 : St) => some ((-1), t28)) a0 N 1 t5)))
    else (some ((-1), t)))))
set_option maxHeartbeats 4000000 in
set_option maxRecDepth 100000 in
theorem t_f_X11_times_L75 {p : Program} {l : Launch} {e : Env} {s : State} {m : MethodId} {args : Array Value} {below : List Frame} {meth : Method} {c : Code} {E : cE} {A : Nat → Prop} {r : Nat → Nat} {mc ms : Nat} {z : Int × St} {N : Nat} {K19 : (Int → St → Option (Int × St))} {y14 : Int} {y15 : Int} (X : gX p s m meth c cX11_times 7 (some .int) yX11_times args E A) (hK19 : ∀ (q5 : Int) (t9 : St), K19 q5 t9 = some z → gP p l e rm_f_X11_times s m args below meth c E A 7 (MQ below ((gqI E (gW E r shH) z) A) args s mc ms A) (gW E r shH) 107 [(0, .ref (r 300)), (1, iv y14), (4, iv y15), (5, iv q5)] [] t9) : ∀ (n9 : Nat) (x16 : Int) (x17 : Int) (t18 : St), f_X11_times_L75 N K19 n9 x16 x17 t18 = some z → gP p l e rm_f_X11_times s m args below meth c E A 7 (MQ below ((gqI E (gW E r shH) z) A) args s mc ms A) (gW E r shH) 75 [(0, .ref (r 300)), (1, iv y14), (4, iv y15), (5, iv x16), (6, iv x17)] [] t18 := by
  intro n9
  induction n9 with
  | zero => intro x16 x17 t18 h; cases h
  | succ n9 ih =>
    intro x16 x17 t18 h
    unfold f_X11_times_L75 at h
    refine g_iload X dX11_times_75 4 rfl ?_
    refine g_ldc (n := 1000000) X rfl wdV_RX11_251 (by decide) dX11_times_77 ?_
    refine g_icmp_ge (tgt := 107) X dX11_times_79 (by decide) h (fun h => ?_) (fun h => ?_)
    · exact g_sub (lv' := [(0, .ref (r 300)), (1, iv y14), (4, iv y15), (5, iv x16)]) [0, 1, 2, 3] rfl (hK19 x16 t18 h)
    · refine g_iload X dX11_times_82 3 rfl ?_
      refine g_iconst X dX11_times_84 ?_
      refine g_icmp_ne (tgt := 107) X dX11_times_85 (by decide) h (fun h => ?_) (fun h => ?_)
      · exact g_sub (lv' := [(0, .ref (r 300)), (1, iv y14), (4, iv y15), (5, iv x16)]) [0, 1, 2, 3] rfl (hK19 x16 t18 h)
      · refine g_aload_n X dX11_times_88 0 rfl ?_
        refine g_getR X fH_X11_60_300 rfl dX11_times_89 ?_
        refine g_aload_n X dX11_times_92 0 rfl ?_
        refine g_getR X fH_X11_48_300 rfl dX11_times_93 ?_
        refine g_callOI (rest := []) X (fun u9 h9 => cp_X8_goOn l E r N 1 (by decide) 1 (by decide) t18 u9 h9) yy_X8_goOn yi_X8_goOn wdM_RX11_185 (oX8 (o := 1) (by decide)) rfl rfl rfl (Nat.le_of_ble_eq_true rfl) dX11_times_96 ⟨by decide, by decide⟩ ⟨rfl, rfl⟩ h (fun v21 t20 h => ?_)
        refine g_istore (lv' := [(5, iv v21), (0, .ref (r 300)), (1, iv y14), (4, iv y15), (6, iv x17)]) X dX11_times_99 (by decide) rfl ?_
        refine g_iinc (lv' := [(6, iv (x17 + 1)), (5, iv v21), (0, .ref (r 300)), (1, iv y14), (4, iv y15)]) X dX11_times_101 (k := 4) rfl (by decide) rfl ?_
        refine g_goto (tgt := 75) X dX11_times_104 (by decide) ?_
        exact g_sub (lv' := [(0, .ref (r 300)), (1, iv y14), (4, iv y15), (5, iv v21), (6, iv (x17 + 1))]) [2, 3, 4, 1, 0] rfl (ih v21 (x17 + 1) t20 h)
set_option maxHeartbeats 4000000 in
set_option maxRecDepth 100000 in
theorem t_f_X11_times_L47 {p : Program} {l : Launch} {e : Env} {s : State} {m : MethodId} {args : Array Value} {below : List Frame} {meth : Method} {c : Code} {E : cE} {A : Nat → Prop} {r : Nat → Nat} {mc ms : Nat} {z : Int × St} {N : Nat} {K9 : (Int → St → Option (Int × St))} {K10 : (St → Option (Int × St))} {y6 : Int} (X : gX p s m meth c cX11_times 7 (some .int) yX11_times args E A) (hK9 : ∀ (q5 : Int) (t9 : St), K9 q5 t9 = some z → gP p l e rm_f_X11_times s m args below meth c E A 7 (MQ below ((gqI E (gW E r shH) z) A) args s mc ms A) (gW E r shH) 112 [(5, iv q5)] [] t9) (hK10 : ∀ (t9 : St), K10 t9 = some z → gP p l e rm_f_X11_times s m args below meth c E A 7 (MQ below ((gqI E (gW E r shH) z) A) args s mc ms A) (gW E r shH) 151 [] [] t9) : ∀ (n9 : Nat) (x7 : Int) (t8 : St), f_X11_times_L47 N K9 K10 y6 n9 x7 t8 = some z → gP p l e rm_f_X11_times s m args below meth c E A 7 (MQ below ((gqI E (gW E r shH) z) A) args s mc ms A) (gW E r shH) 47 [(0, .ref (r 300)), (1, iv y6), (4, iv x7)] [] t8 := by
  intro n9
  induction n9 with
  | zero => intro x7 t8 h; cases h
  | succ n9 ih =>
    intro x7 t8 h
    unfold f_X11_times_L47 at h
    refine g_iload X dX11_times_47 2 rfl ?_
    refine g_bipush X dX11_times_49 (by decide) ?_
    refine g_icmp_gt (tgt := 151) X dX11_times_51 (by decide) h (fun h => ?_) (fun h => ?_)
    · exact g_sub (lv' := []) [] rfl (hK10 t8 h)
    · refine g_aload_n X dX11_times_54 0 rfl ?_
      refine g_getR X fH_X11_60_300 rfl dX11_times_55 ?_
      refine g_iload_n X dX11_times_58 1 rfl ?_
      refine g_aload_n X dX11_times_59 0 rfl ?_
      refine g_getR X fH_X11_48_300 rfl dX11_times_60 ?_
      refine g_callOL (rest := [iv y6, .ref (r (307 + 1))]) X (fun u9 h9 => cp_X3_everybody l E r N 1 (by decide) t8 u9 h9) yy_X3_everybody yi_X3_everybody wdM_RX11_173 (oX3 (o := 1) (by decide)) rfl rfl rfl (Nat.le_of_ble_eq_true rfl) dX11_times_63 ⟨by decide, by decide⟩ ⟨rfl, rfl⟩ h (fun v12 t11 h => ?_)
      refine g_callOV (rest := []) X (fun u9 h9 => cp_X8_start l E r N 1 (by decide) y6 v12 t11 u9 h9) yy_X8_start yi_X8_start wdM_RX11_177 (oX8 (o := 1) (by decide)) rfl rfl rfl (Nat.le_of_ble_eq_true rfl) dX11_times_66 ⟨by decide, by decide⟩ ⟨rfl, rfl⟩ h (fun t13 h => ?_)
      refine g_iconst X dX11_times_69 ?_
      refine g_istore (lv' := [(5, iv 1), (0, .ref (r 300)), (1, iv y6), (4, iv x7)]) X dX11_times_70 (by decide) rfl ?_
      refine g_iconst X dX11_times_72 ?_
      refine g_istore (lv' := [(6, iv 0), (5, iv 1), (0, .ref (r 300)), (1, iv y6), (4, iv x7)]) X dX11_times_73 (by decide) rfl ?_
      refine g_sub (lv' := [(0, .ref (r 300)), (1, iv y6), (4, iv x7), (5, iv 1), (6, iv 0)]) [2, 3, 4, 1, 0] rfl (t_f_X11_times_L75 X (fun k22 t23 h => ?_) N 1 0 t13 h)
      · refine g_iload X dX11_times_107 3 rfl ?_
        refine g_if_eq (tgt := 125) X dX11_times_109 (by decide) h (fun h => ?_) (fun h => ?_)
        · refine g_aload_n X dX11_times_125 0 rfl ?_
          refine g_getR X fH_X11_48_300 rfl dX11_times_126 ?_
          refine g_aload_n X dX11_times_129 0 rfl ?_
          refine g_getR X fH_X11_48_300 rfl dX11_times_130 ?_
          refine g_getR X (fH_X11_252_o (o := 1) (by decide)) rfl dX11_times_133 ?_
          refine g_callOI (rest := []) X (fun u9 h9 => cp_X3_isAt l E r N 1 (by decide) (394 + 10 * 1) 64 (aF_4 (o := 1) (by decide)) t23 u9 h9) yy_X3_isAt yi_X3_isAt wdM_RX11_255 (oX3 (o := 1) (by decide)) rfl rfl rfl (Nat.le_of_ble_eq_true rfl) dX11_times_136 ⟨by decide, by decide⟩ ⟨rfl, rfl⟩ h (fun v25 t24 h => ?_)
          refine g_if_eq (tgt := 145) X dX11_times_139 (by decide) h (fun h => ?_) (fun h => ?_)
          · refine g_iinc (lv' := [(4, iv (x7 + 1)), (0, .ref (r 300)), (1, iv y6), (5, iv k22)]) X dX11_times_145 (k := 2) rfl (by decide) rfl ?_
            refine g_goto (tgt := 47) X dX11_times_148 (by decide) ?_
            exact g_sub (lv' := [(0, .ref (r 300)), (1, iv y6), (4, iv (x7 + 1))]) [1, 2, 0] rfl (ih (x7 + 1) t24 h)
          · refine g_iload X dX11_times_142 2 rfl ?_
            exact g_iret X h dX11_times_144
        · exact g_sub (lv' := [(5, iv k22)]) [3] rfl (hK9 k22 t23 h)
set_option maxHeartbeats 4000000 in
set_option maxRecDepth 100000 in
theorem b_f_X11_times {p : Program} {l : Launch} {e : Env} {s : State} {m : MethodId} {args : Array Value} {below : List Frame} {meth : Method} {c : Code} {E : cE} {A : Nat → Prop} {r : Nat → Nat} {mc ms : Nat} {z : Int × St} {N : Nat} {a0 : Int} {a1 : Int} {a2 : Int} {t : St} (X : gX p s m meth c cX11_times 7 (some .int) yX11_times args E A) (h : f_X11_times N a0 a1 a2 t = some z) : gP p l e rm_f_X11_times s m args below meth c E A 7 (MQ below ((gqI E (gW E r shH) z) A) args s mc ms A) (gW E r shH) 0 [(0, .ref (r 300)), (1, iv a0), (2, iv a1), (3, iv a2)] [] t := by
  unfold f_X11_times at h
  refine g_iload_n X dX11_times_0 1 rfl ?_
  refine g_if_lt (tgt := 26) X dX11_times_1 (by decide) h (fun h => ?_) (fun h => ?_)
  · refine g_iconst X dX11_times_26 ?_
    exact g_iret X h dX11_times_27
  · refine g_iload_n X dX11_times_4 1 rfl ?_
    refine g_aload_n X dX11_times_5 0 rfl ?_
    refine g_getR X fH_X11_19_300 rfl dX11_times_6 ?_
    refine g_getR X fH_X11_164_302 rfl dX11_times_9 ?_
    refine g_getI X (fH_X11_168_o (o := 2) (by decide)) rfl dX11_times_12 h (fun v1 h => ?_)
    refine g_icmp_ge (tgt := 26) X dX11_times_15 (by decide) h (fun h => ?_) (fun h => ?_)
    · refine g_iconst X dX11_times_26 ?_
      exact g_iret X h dX11_times_27
    · refine g_iload_n X dX11_times_18 2 rfl ?_
      refine g_iload_n X dX11_times_19 3 rfl ?_
      refine g_callsI (rest := []) X (fun u9 h9 => cp_X3_isSet l E r N a1 a2 t u9 h9) yy_X3_isSet wdT_X3_isSet wdM_RX11_144 rfl rfl (Nat.le_of_ble_eq_true rfl) dX11_times_20 ⟨by decide, by decide⟩ ⟨rfl, rfl⟩ h (fun v3 t2 h => ?_)
      refine g_if_ne (tgt := 28) X dX11_times_23 (by decide) h (fun h => ?_) (fun h => ?_)
      · refine g_aload_n X dX11_times_28 0 rfl ?_
        refine g_getR X fH_X11_48_300 rfl dX11_times_29 ?_
        refine g_iload_n X dX11_times_32 2 rfl ?_
        refine g_iload_n X dX11_times_33 3 rfl ?_
        refine g_callOV (rest := []) X (fun u9 h9 => cp_X3_lay l E r N 1 (by decide) a1 a2 t2 u9 h9) yy_X3_lay yi_X3_lay wdM_RX11_93 (oX3 (o := 1) (by decide)) rfl rfl rfl (Nat.le_of_ble_eq_true rfl) dX11_times_34 ⟨by decide, by decide⟩ ⟨rfl, rfl⟩ h (fun t4 h => ?_)
        refine g_aload_n X dX11_times_37 0 rfl ?_
        refine g_getR X fH_X11_60_300 rfl dX11_times_38 ?_
        refine g_callOV (rest := []) X (fun u9 h9 => cp_X8_limit l E r N 1 (by decide) t4 u9 h9) yy_X8_limit yi_X8_limit wdM_RX11_248 (oX8 (o := 1) (by decide)) rfl rfl rfl (Nat.le_of_ble_eq_true rfl) dX11_times_41 ⟨by decide, by decide⟩ ⟨rfl, rfl⟩ h (fun t5 h => ?_)
        refine g_iconst X dX11_times_44 ?_
        refine g_istore (lv' := [(4, iv 1), (0, .ref (r 300)), (1, iv a0), (2, iv a1), (3, iv a2)]) X dX11_times_45 (by decide) rfl ?_
        refine g_sub (lv' := [(0, .ref (r 300)), (1, iv a0), (4, iv 1)]) [1, 2, 0] rfl (t_f_X11_times_L47 X (fun k26 t27 h => ?_) (fun t28 h => ?_) N 1 t5 h)
        · refine g_iload X dX11_times_112 0 rfl ?_
          refine g_iconst X dX11_times_114 ?_
          refine g_icmp_ne (tgt := 123) X dX11_times_115 (by decide) h (fun h => ?_) (fun h => ?_)
          · refine g_iconst X dX11_times_123 ?_
            exact g_iret X h dX11_times_124
          · refine g_bipush X dX11_times_118 (by decide) ?_
            refine g_goto (tgt := 124) X dX11_times_120 (by decide) ?_
            exact g_iret X h dX11_times_124
        · refine g_iconst X dX11_times_151 ?_
          exact g_iret X h dX11_times_152
      · refine g_iconst X dX11_times_26 ?_
        exact g_iret X h dX11_times_27
set_option maxHeartbeats 4000000 in
set_option maxRecDepth 100000 in
theorem cp_X11_times (l : Launch) (E : cE) (r : Nat → Nat) (N : Nat) (a0 : Int) (a1 : Int) (a2 : Int) (t : St) (z : Int × St) (h : f_X11_times N a0 a1 a2 t = some z) : cM l E yX11_times cX11_times 7 (some .int) rm_f_X11_times [.ref (r 300), iv a0, iv a1, iv a2] (gW E r shH t) (gqI E (gW E r shH) z) := by
  refine g_of (w := gW E r shH) (by decide) (Nat.le_of_ble_eq_true rfl) ?_
  intro p e s m below meth c A X
  exact g_sub (lv' := [(0, .ref (r 300)), (1, iv a0), (2, iv a1), (3, iv a2)]) [0, 1, 2, 3] rfl (b_f_X11_times X h)
theorem yy_X11_times : cY yX11_times cX11_times 7 (some .int) 3 := ⟨wdK_X11_times, wdZ_RX11, by decide +kernel⟩
theorem yi_X11_times : cYi yX11_times := ⟨wdN_X11_times, wdS_X11_times⟩
theorem dX11_dancer_0 : decode cX11_dancer 0 = .ok (.iload_n 1, 1) := by decide +kernel
theorem dX11_dancer_1 : decode cX11_dancer 1 = .ok (.ifCond .lt 14, 3) := by decide +kernel
theorem dX11_dancer_4 : decode cX11_dancer 4 = .ok (.iload_n 1, 1) := by decide +kernel
theorem dX11_dancer_5 : decode cX11_dancer 5 = .ok (.aload_n 0, 1) := by decide +kernel
theorem dX11_dancer_6 : decode cX11_dancer 6 = .ok (.getfield 44, 3) := by decide +kernel
theorem dX11_dancer_9 : decode cX11_dancer 9 = .ok (.getfield 221, 3) := by decide +kernel
theorem dX11_dancer_12 : decode cX11_dancer 12 = .ok (.if_icmp .lt 5, 3) := by decide +kernel
theorem dX11_dancer_15 : decode cX11_dancer 15 = .ok (.iconst (-1), 1) := by decide +kernel
theorem dX11_dancer_16 : decode cX11_dancer 16 = .ok (.ireturn, 1) := by decide +kernel
theorem dX11_dancer_17 : decode cX11_dancer 17 = .ok (.iload_n 2, 1) := by decide +kernel
theorem dX11_dancer_18 : decode cX11_dancer 18 = .ok (.tableswitch 70 0 3 #[30, 40, 50, 60], 30) := by decide +kernel
theorem dX11_dancer_48 : decode cX11_dancer 48 = .ok (.aload_n 0, 1) := by decide +kernel
theorem dX11_dancer_49 : decode cX11_dancer 49 = .ok (.getfield 44, 3) := by decide +kernel
theorem dX11_dancer_52 : decode cX11_dancer 52 = .ok (.getfield 259, 3) := by decide +kernel
theorem dX11_dancer_55 : decode cX11_dancer 55 = .ok (.iload_n 1, 1) := by decide +kernel
theorem dX11_dancer_56 : decode cX11_dancer 56 = .ok (.iaload, 1) := by decide +kernel
theorem dX11_dancer_57 : decode cX11_dancer 57 = .ok (.ireturn, 1) := by decide +kernel
theorem dX11_dancer_58 : decode cX11_dancer 58 = .ok (.aload_n 0, 1) := by decide +kernel
theorem dX11_dancer_59 : decode cX11_dancer 59 = .ok (.getfield 44, 3) := by decide +kernel
theorem dX11_dancer_62 : decode cX11_dancer 62 = .ok (.getfield 262, 3) := by decide +kernel
theorem dX11_dancer_65 : decode cX11_dancer 65 = .ok (.iload_n 1, 1) := by decide +kernel
theorem dX11_dancer_66 : decode cX11_dancer 66 = .ok (.iaload, 1) := by decide +kernel
theorem dX11_dancer_67 : decode cX11_dancer 67 = .ok (.ireturn, 1) := by decide +kernel
theorem dX11_dancer_68 : decode cX11_dancer 68 = .ok (.aload_n 0, 1) := by decide +kernel
theorem dX11_dancer_69 : decode cX11_dancer 69 = .ok (.getfield 44, 3) := by decide +kernel
theorem dX11_dancer_72 : decode cX11_dancer 72 = .ok (.getfield 265, 3) := by decide +kernel
theorem dX11_dancer_75 : decode cX11_dancer 75 = .ok (.iload_n 1, 1) := by decide +kernel
theorem dX11_dancer_76 : decode cX11_dancer 76 = .ok (.iaload, 1) := by decide +kernel
theorem dX11_dancer_77 : decode cX11_dancer 77 = .ok (.ireturn, 1) := by decide +kernel
theorem dX11_dancer_78 : decode cX11_dancer 78 = .ok (.aload_n 0, 1) := by decide +kernel
theorem dX11_dancer_79 : decode cX11_dancer 79 = .ok (.getfield 44, 3) := by decide +kernel
theorem dX11_dancer_82 : decode cX11_dancer 82 = .ok (.getfield 268, 3) := by decide +kernel
theorem dX11_dancer_85 : decode cX11_dancer 85 = .ok (.iload_n 1, 1) := by decide +kernel
theorem dX11_dancer_86 : decode cX11_dancer 86 = .ok (.iaload, 1) := by decide +kernel
theorem dX11_dancer_87 : decode cX11_dancer 87 = .ok (.ireturn, 1) := by decide +kernel
theorem dX11_dancer_88 : decode cX11_dancer 88 = .ok (.iconst (-1), 1) := by decide +kernel
theorem dX11_dancer_89 : decode cX11_dancer 89 = .ok (.ireturn, 1) := by decide +kernel
abbrev rm_f_X11_dancer : Room := { frames := 0, cells := 0, slots := 0, locals := 0 }
def f_X11_dancer (N : Nat) (a0 : Int) (a1 : Int) (t : St) : Option (Int × St) :=
    cmpI a0 0 (if a0 < 0 then (some ((-1), t))
    else (lt1 (t.1 (305 + 0) 8) fun v1 =>
    cmpI a0 v1 (if a0 < v1 then (rnI a1 (if a1 = 0 then (ixI a0 64 (lt1 (t.1 (390 + 10 * 0) a0.toNat) fun v2 =>
    some (v2, t)))
    else (if a1 = 1 then (ixI a0 64 (lt1 (t.1 (391 + 10 * 0) a0.toNat) fun v3 =>
    some (v3, t)))
    else (if a1 = 2 then (ixI a0 64 (lt1 (t.1 (392 + 10 * 0) a0.toNat) fun v4 =>
    some (v4, t)))
    else (if a1 = 3 then (ixI a0 64 (lt1 (t.1 (393 + 10 * 0) a0.toNat) fun v5 =>
    some (v5, t)))
    else (some ((-1), t)))))))
    else (some ((-1), t)))))
set_option maxHeartbeats 4000000 in
set_option maxRecDepth 100000 in
theorem b_f_X11_dancer {p : Program} {l : Launch} {e : Env} {s : State} {m : MethodId} {args : Array Value} {below : List Frame} {meth : Method} {c : Code} {E : cE} {A : Nat → Prop} {r : Nat → Nat} {mc ms : Nat} {z : Int × St} {N : Nat} {a0 : Int} {a1 : Int} {t : St} (X : gX p s m meth c cX11_dancer 3 (some .int) yX11_dancer args E A) (h : f_X11_dancer N a0 a1 t = some z) : gP p l e rm_f_X11_dancer s m args below meth c E A 3 (MQ below ((gqI E (gW E r shH) z) A) args s mc ms A) (gW E r shH) 0 [(0, .ref (r 300)), (1, iv a0), (2, iv a1)] [] t := by
  unfold f_X11_dancer at h
  refine g_iload_n X dX11_dancer_0 1 rfl ?_
  refine g_if_lt (tgt := 15) X dX11_dancer_1 (by decide) h (fun h => ?_) (fun h => ?_)
  · refine g_iconst X dX11_dancer_15 ?_
    exact g_iret X h dX11_dancer_16
  · refine g_iload_n X dX11_dancer_4 1 rfl ?_
    refine g_aload_n X dX11_dancer_5 0 rfl ?_
    refine g_getR X fH_X11_44_300 rfl dX11_dancer_6 ?_
    refine g_getI X (fH_X11_221_o (o := 0) (by decide)) rfl dX11_dancer_9 h (fun v1 h => ?_)
    refine g_icmp_lt (tgt := 17) X dX11_dancer_12 (by decide) h (fun h => ?_) (fun h => ?_)
    · refine g_iload_n X dX11_dancer_17 2 rfl ?_
      obtain ⟨hr9, h⟩ := rnI_some h
      by_cases e9_0 : a1 = 0
      · rw [if_pos e9_0] at h
        refine g_tableIn X (tgt := 48) (off := 30) dX11_dancer_18 (k := 0) hr9 e9_0 (by decide) (by decide) rfl (by decide) ?_
        refine g_aload_n X dX11_dancer_48 0 rfl ?_
        refine g_getR X fH_X11_44_300 rfl dX11_dancer_49 ?_
        refine g_getR X (fH_X11_259_o (o := 0) (by decide)) rfl dX11_dancer_52 ?_
        refine g_iload_n X dX11_dancer_55 1 rfl ?_
        refine g_iald X (aF_0 (o := 0) (by decide)) dX11_dancer_56 h (fun v2 h => ?_)
        exact g_iret X h dX11_dancer_57
      · rw [if_neg e9_0] at h
        by_cases e9_1 : a1 = 1
        · rw [if_pos e9_1] at h
          refine g_tableIn X (tgt := 58) (off := 40) dX11_dancer_18 (k := 1) hr9 e9_1 (by decide) (by decide) rfl (by decide) ?_
          refine g_aload_n X dX11_dancer_58 0 rfl ?_
          refine g_getR X fH_X11_44_300 rfl dX11_dancer_59 ?_
          refine g_getR X (fH_X11_262_o (o := 0) (by decide)) rfl dX11_dancer_62 ?_
          refine g_iload_n X dX11_dancer_65 1 rfl ?_
          refine g_iald X (aF_1 (o := 0) (by decide)) dX11_dancer_66 h (fun v3 h => ?_)
          exact g_iret X h dX11_dancer_67
        · rw [if_neg e9_1] at h
          by_cases e9_2 : a1 = 2
          · rw [if_pos e9_2] at h
            refine g_tableIn X (tgt := 68) (off := 50) dX11_dancer_18 (k := 2) hr9 e9_2 (by decide) (by decide) rfl (by decide) ?_
            refine g_aload_n X dX11_dancer_68 0 rfl ?_
            refine g_getR X fH_X11_44_300 rfl dX11_dancer_69 ?_
            refine g_getR X (fH_X11_265_o (o := 0) (by decide)) rfl dX11_dancer_72 ?_
            refine g_iload_n X dX11_dancer_75 1 rfl ?_
            refine g_iald X (aF_2 (o := 0) (by decide)) dX11_dancer_76 h (fun v4 h => ?_)
            exact g_iret X h dX11_dancer_77
          · rw [if_neg e9_2] at h
            by_cases e9_3 : a1 = 3
            · rw [if_pos e9_3] at h
              refine g_tableIn X (tgt := 78) (off := 60) dX11_dancer_18 (k := 3) hr9 e9_3 (by decide) (by decide) rfl (by decide) ?_
              refine g_aload_n X dX11_dancer_78 0 rfl ?_
              refine g_getR X fH_X11_44_300 rfl dX11_dancer_79 ?_
              refine g_getR X (fH_X11_268_o (o := 0) (by decide)) rfl dX11_dancer_82 ?_
              refine g_iload_n X dX11_dancer_85 1 rfl ?_
              refine g_iald X (aF_3 (o := 0) (by decide)) dX11_dancer_86 h (fun v5 h => ?_)
              exact g_iret X h dX11_dancer_87
            · rw [if_neg e9_3] at h
              refine g_tableOut X (tgt := 88) dX11_dancer_18 hr9 (by omega) (by decide) ?_
              refine g_iconst X dX11_dancer_88 ?_
              exact g_iret X h dX11_dancer_89
    · refine g_iconst X dX11_dancer_15 ?_
      exact g_iret X h dX11_dancer_16
set_option maxHeartbeats 4000000 in
set_option maxRecDepth 100000 in
theorem cp_X11_dancer (l : Launch) (E : cE) (r : Nat → Nat) (N : Nat) (a0 : Int) (a1 : Int) (t : St) (z : Int × St) (h : f_X11_dancer N a0 a1 t = some z) : cM l E yX11_dancer cX11_dancer 3 (some .int) rm_f_X11_dancer [.ref (r 300), iv a0, iv a1] (gW E r shH t) (gqI E (gW E r shH) z) := by
  refine g_of (w := gW E r shH) (by decide) (Nat.le_of_ble_eq_true rfl) ?_
  intro p e s m below meth c A X
  exact g_sub (lv' := [(0, .ref (r 300)), (1, iv a0), (2, iv a1)]) [0, 1, 2] rfl (b_f_X11_dancer X h)
theorem yy_X11_dancer : cY yX11_dancer cX11_dancer 3 (some .int) 2 := ⟨wdK_X11_dancer, wdZ_RX11, by decide +kernel⟩
theorem yi_X11_dancer : cYi yX11_dancer := ⟨wdN_X11_dancer, wdS_X11_dancer⟩
theorem dX11_at_0 : decode cX11_at 0 = .ok (.aload_n 0, 1) := by decide +kernel
theorem dX11_at_1 : decode cX11_at 1 = .ok (.getfield 44, 3) := by decide +kernel
theorem dX11_at_4 : decode cX11_at 4 = .ok (.iload_n 1, 1) := by decide +kernel
theorem dX11_at_5 : decode cX11_at 5 = .ok (.iload_n 2, 1) := by decide +kernel
theorem dX11_at_6 : decode cX11_at 6 = .ok (.invokevirtual 271, 3) := by decide +kernel
theorem dX11_at_9 : decode cX11_at 9 = .ok (.ireturn, 1) := by decide +kernel
abbrev rm_f_X11_at : Room := { frames := 1, cells := 0, slots := 0, locals := 22 }
def f_X11_at (N : Nat) (a0 : Int) (a1 : Int) (t : St) : Option (Int × St) :=
    bdI (f_X3_whoIsAt N 0 a0 a1 t) fun v2 t1 =>
    some (v2, t1)
set_option maxHeartbeats 4000000 in
set_option maxRecDepth 100000 in
theorem b_f_X11_at {p : Program} {l : Launch} {e : Env} {s : State} {m : MethodId} {args : Array Value} {below : List Frame} {meth : Method} {c : Code} {E : cE} {A : Nat → Prop} {r : Nat → Nat} {mc ms : Nat} {z : Int × St} {N : Nat} {a0 : Int} {a1 : Int} {t : St} (X : gX p s m meth c cX11_at 3 (some .int) yX11_at args E A) (h : f_X11_at N a0 a1 t = some z) : gP p l e rm_f_X11_at s m args below meth c E A 3 (MQ below ((gqI E (gW E r shH) z) A) args s mc ms A) (gW E r shH) 0 [(0, .ref (r 300)), (1, iv a0), (2, iv a1)] [] t := by
  unfold f_X11_at at h
  refine g_aload_n X dX11_at_0 0 rfl ?_
  refine g_getR X fH_X11_44_300 rfl dX11_at_1 ?_
  refine g_iload_n X dX11_at_4 1 rfl ?_
  refine g_iload_n X dX11_at_5 2 rfl ?_
  refine g_callOI (rest := []) X (fun u9 h9 => cp_X3_whoIsAt l E r N 0 (by decide) a0 a1 t u9 h9) yy_X3_whoIsAt yi_X3_whoIsAt wdM_RX11_271 (oX3 (o := 0) (by decide)) rfl rfl rfl (Nat.le_of_ble_eq_true rfl) dX11_at_6 ⟨by decide, by decide⟩ ⟨rfl, rfl⟩ h (fun v2 t1 h => ?_)
  exact g_iret X h dX11_at_9
set_option maxHeartbeats 4000000 in
set_option maxRecDepth 100000 in
theorem cp_X11_at (l : Launch) (E : cE) (r : Nat → Nat) (N : Nat) (a0 : Int) (a1 : Int) (t : St) (z : Int × St) (h : f_X11_at N a0 a1 t = some z) : cM l E yX11_at cX11_at 3 (some .int) rm_f_X11_at [.ref (r 300), iv a0, iv a1] (gW E r shH t) (gqI E (gW E r shH) z) := by
  refine g_of (w := gW E r shH) (by decide) (Nat.le_of_ble_eq_true rfl) ?_
  intro p e s m below meth c A X
  exact g_sub (lv' := [(0, .ref (r 300)), (1, iv a0), (2, iv a1)]) [0, 1, 2] rfl (b_f_X11_at X h)
theorem yy_X11_at : cY yX11_at cX11_at 3 (some .int) 2 := ⟨wdK_X11_at, wdZ_RX11, by decide +kernel⟩
theorem yi_X11_at : cYi yX11_at := ⟨wdN_X11_at, wdS_X11_at⟩
theorem dX11_about_0 : decode cX11_about 0 = .ok (.iload_n 1, 1) := by decide +kernel
theorem dX11_about_1 : decode cX11_about 1 = .ok (.tableswitch 221 0 13 #[71, 79, 84, 89, 97, 120, 140, 151, 162, 173, 181, 197, 205, 213], 71) := by decide +kernel
theorem dX11_about_72 : decode cX11_about 72 = .ok (.aload_n 0, 1) := by decide +kernel
theorem dX11_about_73 : decode cX11_about 73 = .ok (.getfield 44, 3) := by decide +kernel
theorem dX11_about_76 : decode cX11_about 76 = .ok (.getfield 221, 3) := by decide +kernel
theorem dX11_about_79 : decode cX11_about 79 = .ok (.ireturn, 1) := by decide +kernel
theorem dX11_about_80 : decode cX11_about 80 = .ok (.aload_n 0, 1) := by decide +kernel
theorem dX11_about_81 : decode cX11_about 81 = .ok (.getfield 158, 3) := by decide +kernel
theorem dX11_about_84 : decode cX11_about 84 = .ok (.ireturn, 1) := by decide +kernel
theorem dX11_about_85 : decode cX11_about 85 = .ok (.aload_n 0, 1) := by decide +kernel
theorem dX11_about_86 : decode cX11_about 86 = .ok (.getfield 161, 3) := by decide +kernel
theorem dX11_about_89 : decode cX11_about 89 = .ok (.ireturn, 1) := by decide +kernel
theorem dX11_about_90 : decode cX11_about 90 = .ok (.aload_n 0, 1) := by decide +kernel
theorem dX11_about_91 : decode cX11_about 91 = .ok (.getfield 66, 3) := by decide +kernel
theorem dX11_about_94 : decode cX11_about 94 = .ok (.getfield 195, 3) := by decide +kernel
theorem dX11_about_97 : decode cX11_about 97 = .ok (.ireturn, 1) := by decide +kernel
theorem dX11_about_98 : decode cX11_about 98 = .ok (.aload_n 0, 1) := by decide +kernel
theorem dX11_about_99 : decode cX11_about 99 = .ok (.getfield 44, 3) := by decide +kernel
theorem dX11_about_102 : decode cX11_about 102 = .ok (.aload_n 0, 1) := by decide +kernel
theorem dX11_about_103 : decode cX11_about 103 = .ok (.getfield 44, 3) := by decide +kernel
theorem dX11_about_106 : decode cX11_about 106 = .ok (.getfield 252, 3) := by decide +kernel
theorem dX11_about_109 : decode cX11_about 109 = .ok (.invokevirtual 255, 3) := by decide +kernel
theorem dX11_about_112 : decode cX11_about 112 = .ok (.ifCond .eq 7, 3) := by decide +kernel
theorem dX11_about_115 : decode cX11_about 115 = .ok (.iconst 1, 1) := by decide +kernel
theorem dX11_about_116 : decode cX11_about 116 = .ok (.goto 4, 3) := by decide +kernel
theorem dX11_about_119 : decode cX11_about 119 = .ok (.iconst 0, 1) := by decide +kernel
theorem dX11_about_120 : decode cX11_about 120 = .ok (.ireturn, 1) := by decide +kernel
theorem dX11_about_121 : decode cX11_about 121 = .ok (.aload_n 0, 1) := by decide +kernel
theorem dX11_about_122 : decode cX11_about 122 = .ok (.getfield 44, 3) := by decide +kernel
theorem dX11_about_125 : decode cX11_about 125 = .ok (.aload_n 0, 1) := by decide +kernel
theorem dX11_about_126 : decode cX11_about 126 = .ok (.getfield 79, 3) := by decide +kernel
theorem dX11_about_129 : decode cX11_about 129 = .ok (.invokevirtual 255, 3) := by decide +kernel
theorem dX11_about_132 : decode cX11_about 132 = .ok (.ifCond .eq 7, 3) := by decide +kernel
theorem dX11_about_135 : decode cX11_about 135 = .ok (.iconst 1, 1) := by decide +kernel
theorem dX11_about_136 : decode cX11_about 136 = .ok (.goto 4, 3) := by decide +kernel
theorem dX11_about_139 : decode cX11_about 139 = .ok (.iconst 0, 1) := by decide +kernel
theorem dX11_about_140 : decode cX11_about 140 = .ok (.ireturn, 1) := by decide +kernel
theorem dX11_about_141 : decode cX11_about 141 = .ok (.aload_n 0, 1) := by decide +kernel
theorem dX11_about_142 : decode cX11_about 142 = .ok (.getfield 19, 3) := by decide +kernel
theorem dX11_about_145 : decode cX11_about 145 = .ok (.getfield 275, 3) := by decide +kernel
theorem dX11_about_148 : decode cX11_about 148 = .ok (.getfield 168, 3) := by decide +kernel
theorem dX11_about_151 : decode cX11_about 151 = .ok (.ireturn, 1) := by decide +kernel
theorem dX11_about_152 : decode cX11_about 152 = .ok (.aload_n 0, 1) := by decide +kernel
theorem dX11_about_153 : decode cX11_about 153 = .ok (.getfield 19, 3) := by decide +kernel
theorem dX11_about_156 : decode cX11_about 156 = .ok (.getfield 278, 3) := by decide +kernel
theorem dX11_about_159 : decode cX11_about 159 = .ok (.getfield 168, 3) := by decide +kernel
theorem dX11_about_162 : decode cX11_about 162 = .ok (.ireturn, 1) := by decide +kernel
theorem dX11_about_163 : decode cX11_about 163 = .ok (.aload_n 0, 1) := by decide +kernel
theorem dX11_about_164 : decode cX11_about 164 = .ok (.getfield 19, 3) := by decide +kernel
theorem dX11_about_167 : decode cX11_about 167 = .ok (.getfield 164, 3) := by decide +kernel
theorem dX11_about_170 : decode cX11_about 170 = .ok (.getfield 168, 3) := by decide +kernel
theorem dX11_about_173 : decode cX11_about 173 = .ok (.ireturn, 1) := by decide +kernel
theorem dX11_about_174 : decode cX11_about 174 = .ok (.aload_n 0, 1) := by decide +kernel
theorem dX11_about_175 : decode cX11_about 175 = .ok (.getfield 19, 3) := by decide +kernel
theorem dX11_about_178 : decode cX11_about 178 = .ok (.getfield 211, 3) := by decide +kernel
theorem dX11_about_181 : decode cX11_about 181 = .ok (.ireturn, 1) := by decide +kernel
theorem dX11_about_182 : decode cX11_about 182 = .ok (.aload_n 0, 1) := by decide +kernel
theorem dX11_about_183 : decode cX11_about 183 = .ok (.getfield 56, 3) := by decide +kernel
theorem dX11_about_186 : decode cX11_about 186 = .ok (.getfield 151, 3) := by decide +kernel
theorem dX11_about_189 : decode cX11_about 189 = .ok (.ifCond .eq 7, 3) := by decide +kernel
theorem dX11_about_192 : decode cX11_about 192 = .ok (.iconst 1, 1) := by decide +kernel
theorem dX11_about_193 : decode cX11_about 193 = .ok (.goto 4, 3) := by decide +kernel
theorem dX11_about_196 : decode cX11_about 196 = .ok (.iconst 0, 1) := by decide +kernel
theorem dX11_about_197 : decode cX11_about 197 = .ok (.ireturn, 1) := by decide +kernel
theorem dX11_about_198 : decode cX11_about 198 = .ok (.aload_n 0, 1) := by decide +kernel
theorem dX11_about_199 : decode cX11_about 199 = .ok (.getfield 75, 3) := by decide +kernel
theorem dX11_about_202 : decode cX11_about 202 = .ok (.getfield 281, 3) := by decide +kernel
theorem dX11_about_205 : decode cX11_about 205 = .ok (.ireturn, 1) := by decide +kernel
theorem dX11_about_206 : decode cX11_about 206 = .ok (.aload_n 0, 1) := by decide +kernel
theorem dX11_about_207 : decode cX11_about 207 = .ok (.getfield 10, 3) := by decide +kernel
theorem dX11_about_210 : decode cX11_about 210 = .ok (.getfield 284, 3) := by decide +kernel
theorem dX11_about_213 : decode cX11_about 213 = .ok (.ireturn, 1) := by decide +kernel
theorem dX11_about_214 : decode cX11_about 214 = .ok (.aload_n 0, 1) := by decide +kernel
theorem dX11_about_215 : decode cX11_about 215 = .ok (.getfield 19, 3) := by decide +kernel
theorem dX11_about_218 : decode cX11_about 218 = .ok (.getfield 287, 3) := by decide +kernel
theorem dX11_about_221 : decode cX11_about 221 = .ok (.ireturn, 1) := by decide +kernel
theorem dX11_about_222 : decode cX11_about 222 = .ok (.iconst (-1), 1) := by decide +kernel
theorem dX11_about_223 : decode cX11_about 223 = .ok (.ireturn, 1) := by decide +kernel
abbrev rm_f_X11_about : Room := { frames := 3, cells := 0, slots := 0, locals := 65 }
def f_X11_about (N : Nat) (a0 : Int) (t : St) : Option (Int × St) :=
    rnI a0 (if a0 = 0 then (lt1 (t.1 (305 + 0) 8) fun v1 =>
    some (v1, t))
    else (if a0 = 1 then (lt1 (t.1 300 11) fun v2 =>
    some (v2, t))
    else (if a0 = 2 then (lt1 (t.1 300 12) fun v3 =>
    some (v3, t))
    else (if a0 = 3 then (lt1 (t.1 309 2) fun v4 =>
    some (v4, t))
    else (if a0 = 4 then (bdI (f_X3_isAt N 0 (394 + 10 * 0) 64 t) fun v6 t5 =>
    cmpI v6 0 (if v6 = 0 then (some (0, t5))
    else (some (1, t5))))
    else (if a0 = 5 then (bdI (f_X3_isAt N 0 320 64 t) fun v8 t7 =>
    cmpI v8 0 (if v8 = 0 then (some (0, t7))
    else (some (1, t7))))
    else (if a0 = 6 then (lt1 (t.1 (312 + 0) 2) fun v9 =>
    some (v9, t))
    else (if a0 = 7 then (lt1 (t.1 (312 + 1) 2) fun v10 =>
    some (v10, t))
    else (if a0 = 8 then (lt1 (t.1 (312 + 2) 2) fun v11 =>
    some (v11, t))
    else (if a0 = 9 then (lt1 (t.1 302 16) fun v12 =>
    some (v12, t))
    else (if a0 = 10 then (lt1 (t.1 (307 + 0) 2) fun v13 =>
    cmpI v13 0 (if v13 = 0 then (some (0, t))
    else (some (1, t))))
    else (if a0 = 11 then (lt1 (t.1 310 13) fun v14 =>
    some (v14, t))
    else (if a0 = 12 then (lt1 (t.1 301 1) fun v15 =>
    some (v15, t))
    else (if a0 = 13 then (lt1 (t.1 302 19) fun v16 =>
    some (v16, t))
    else (some ((-1), t))))))))))))))))
set_option maxHeartbeats 4000000 in
set_option maxRecDepth 100000 in
theorem b_f_X11_about {p : Program} {l : Launch} {e : Env} {s : State} {m : MethodId} {args : Array Value} {below : List Frame} {meth : Method} {c : Code} {E : cE} {A : Nat → Prop} {r : Nat → Nat} {mc ms : Nat} {z : Int × St} {N : Nat} {a0 : Int} {t : St} (X : gX p s m meth c cX11_about 2 (some .int) yX11_about args E A) (h : f_X11_about N a0 t = some z) : gP p l e rm_f_X11_about s m args below meth c E A 2 (MQ below ((gqI E (gW E r shH) z) A) args s mc ms A) (gW E r shH) 0 [(0, .ref (r 300)), (1, iv a0)] [] t := by
  unfold f_X11_about at h
  refine g_iload_n X dX11_about_0 1 rfl ?_
  obtain ⟨hr9, h⟩ := rnI_some h
  by_cases e9_0 : a0 = 0
  · rw [if_pos e9_0] at h
    refine g_tableIn X (tgt := 72) (off := 71) dX11_about_1 (k := 0) hr9 e9_0 (by decide) (by decide) rfl (by decide) ?_
    refine g_aload_n X dX11_about_72 0 rfl ?_
    refine g_getR X fH_X11_44_300 rfl dX11_about_73 ?_
    refine g_getI X (fH_X11_221_o (o := 0) (by decide)) rfl dX11_about_76 h (fun v1 h => ?_)
    exact g_iret X h dX11_about_79
  · rw [if_neg e9_0] at h
    by_cases e9_1 : a0 = 1
    · rw [if_pos e9_1] at h
      refine g_tableIn X (tgt := 80) (off := 79) dX11_about_1 (k := 1) hr9 e9_1 (by decide) (by decide) rfl (by decide) ?_
      refine g_aload_n X dX11_about_80 0 rfl ?_
      refine g_getI X fH_X11_158_300 rfl dX11_about_81 h (fun v2 h => ?_)
      exact g_iret X h dX11_about_84
    · rw [if_neg e9_1] at h
      by_cases e9_2 : a0 = 2
      · rw [if_pos e9_2] at h
        refine g_tableIn X (tgt := 85) (off := 84) dX11_about_1 (k := 2) hr9 e9_2 (by decide) (by decide) rfl (by decide) ?_
        refine g_aload_n X dX11_about_85 0 rfl ?_
        refine g_getI X fH_X11_161_300 rfl dX11_about_86 h (fun v3 h => ?_)
        exact g_iret X h dX11_about_89
      · rw [if_neg e9_2] at h
        by_cases e9_3 : a0 = 3
        · rw [if_pos e9_3] at h
          refine g_tableIn X (tgt := 90) (off := 89) dX11_about_1 (k := 3) hr9 e9_3 (by decide) (by decide) rfl (by decide) ?_
          refine g_aload_n X dX11_about_90 0 rfl ?_
          refine g_getR X fH_X11_66_300 rfl dX11_about_91 ?_
          refine g_getI X fH_X11_195_309 rfl dX11_about_94 h (fun v4 h => ?_)
          exact g_iret X h dX11_about_97
        · rw [if_neg e9_3] at h
          by_cases e9_4 : a0 = 4
          · rw [if_pos e9_4] at h
            refine g_tableIn X (tgt := 98) (off := 97) dX11_about_1 (k := 4) hr9 e9_4 (by decide) (by decide) rfl (by decide) ?_
            refine g_aload_n X dX11_about_98 0 rfl ?_
            refine g_getR X fH_X11_44_300 rfl dX11_about_99 ?_
            refine g_aload_n X dX11_about_102 0 rfl ?_
            refine g_getR X fH_X11_44_300 rfl dX11_about_103 ?_
            refine g_getR X (fH_X11_252_o (o := 0) (by decide)) rfl dX11_about_106 ?_
            refine g_callOI (rest := []) X (fun u9 h9 => cp_X3_isAt l E r N 0 (by decide) (394 + 10 * 0) 64 (aF_4 (o := 0) (by decide)) t u9 h9) yy_X3_isAt yi_X3_isAt wdM_RX11_255 (oX3 (o := 0) (by decide)) rfl rfl rfl (Nat.le_of_ble_eq_true rfl) dX11_about_109 ⟨by decide, by decide⟩ ⟨rfl, rfl⟩ h (fun v6 t5 h => ?_)
            refine g_if_eq (tgt := 119) X dX11_about_112 (by decide) h (fun h => ?_) (fun h => ?_)
            · refine g_iconst X dX11_about_119 ?_
              exact g_iret X h dX11_about_120
            · refine g_iconst X dX11_about_115 ?_
              refine g_goto (tgt := 120) X dX11_about_116 (by decide) ?_
              exact g_iret X h dX11_about_120
          · rw [if_neg e9_4] at h
            by_cases e9_5 : a0 = 5
            · rw [if_pos e9_5] at h
              refine g_tableIn X (tgt := 121) (off := 120) dX11_about_1 (k := 5) hr9 e9_5 (by decide) (by decide) rfl (by decide) ?_
              refine g_aload_n X dX11_about_121 0 rfl ?_
              refine g_getR X fH_X11_44_300 rfl dX11_about_122 ?_
              refine g_aload_n X dX11_about_125 0 rfl ?_
              refine g_getR X fH_X11_79_300 rfl dX11_about_126 ?_
              refine g_callOI (rest := []) X (fun u9 h9 => cp_X3_isAt l E r N 0 (by decide) 320 64 aH_320 t u9 h9) yy_X3_isAt yi_X3_isAt wdM_RX11_255 (oX3 (o := 0) (by decide)) rfl rfl rfl (Nat.le_of_ble_eq_true rfl) dX11_about_129 ⟨by decide, by decide⟩ ⟨rfl, rfl⟩ h (fun v8 t7 h => ?_)
              refine g_if_eq (tgt := 139) X dX11_about_132 (by decide) h (fun h => ?_) (fun h => ?_)
              · refine g_iconst X dX11_about_139 ?_
                exact g_iret X h dX11_about_140
              · refine g_iconst X dX11_about_135 ?_
                refine g_goto (tgt := 140) X dX11_about_136 (by decide) ?_
                exact g_iret X h dX11_about_140
            · rw [if_neg e9_5] at h
              by_cases e9_6 : a0 = 6
              · rw [if_pos e9_6] at h
                refine g_tableIn X (tgt := 141) (off := 140) dX11_about_1 (k := 6) hr9 e9_6 (by decide) (by decide) rfl (by decide) ?_
                refine g_aload_n X dX11_about_141 0 rfl ?_
                refine g_getR X fH_X11_19_300 rfl dX11_about_142 ?_
                refine g_getR X fH_X11_275_302 rfl dX11_about_145 ?_
                refine g_getI X (fH_X11_168_o (o := 0) (by decide)) rfl dX11_about_148 h (fun v9 h => ?_)
                exact g_iret X h dX11_about_151
              · rw [if_neg e9_6] at h
                by_cases e9_7 : a0 = 7
                · rw [if_pos e9_7] at h
                  refine g_tableIn X (tgt := 152) (off := 151) dX11_about_1 (k := 7) hr9 e9_7 (by decide) (by decide) rfl (by decide) ?_
                  refine g_aload_n X dX11_about_152 0 rfl ?_
                  refine g_getR X fH_X11_19_300 rfl dX11_about_153 ?_
                  refine g_getR X fH_X11_278_302 rfl dX11_about_156 ?_
                  refine g_getI X (fH_X11_168_o (o := 1) (by decide)) rfl dX11_about_159 h (fun v10 h => ?_)
                  exact g_iret X h dX11_about_162
                · rw [if_neg e9_7] at h
                  by_cases e9_8 : a0 = 8
                  · rw [if_pos e9_8] at h
                    refine g_tableIn X (tgt := 163) (off := 162) dX11_about_1 (k := 8) hr9 e9_8 (by decide) (by decide) rfl (by decide) ?_
                    refine g_aload_n X dX11_about_163 0 rfl ?_
                    refine g_getR X fH_X11_19_300 rfl dX11_about_164 ?_
                    refine g_getR X fH_X11_164_302 rfl dX11_about_167 ?_
                    refine g_getI X (fH_X11_168_o (o := 2) (by decide)) rfl dX11_about_170 h (fun v11 h => ?_)
                    exact g_iret X h dX11_about_173
                  · rw [if_neg e9_8] at h
                    by_cases e9_9 : a0 = 9
                    · rw [if_pos e9_9] at h
                      refine g_tableIn X (tgt := 174) (off := 173) dX11_about_1 (k := 9) hr9 e9_9 (by decide) (by decide) rfl (by decide) ?_
                      refine g_aload_n X dX11_about_174 0 rfl ?_
                      refine g_getR X fH_X11_19_300 rfl dX11_about_175 ?_
                      refine g_getI X fH_X11_211_302 rfl dX11_about_178 h (fun v12 h => ?_)
                      exact g_iret X h dX11_about_181
                    · rw [if_neg e9_9] at h
                      by_cases e9_10 : a0 = 10
                      · rw [if_pos e9_10] at h
                        refine g_tableIn X (tgt := 182) (off := 181) dX11_about_1 (k := 10) hr9 e9_10 (by decide) (by decide) rfl (by decide) ?_
                        refine g_aload_n X dX11_about_182 0 rfl ?_
                        refine g_getR X fH_X11_56_300 rfl dX11_about_183 ?_
                        refine g_getI X (fH_X11_151_o (o := 0) (by decide)) rfl dX11_about_186 h (fun v13 h => ?_)
                        refine g_if_eq (tgt := 196) X dX11_about_189 (by decide) h (fun h => ?_) (fun h => ?_)
                        · refine g_iconst X dX11_about_196 ?_
                          exact g_iret X h dX11_about_197
                        · refine g_iconst X dX11_about_192 ?_
                          refine g_goto (tgt := 197) X dX11_about_193 (by decide) ?_
                          exact g_iret X h dX11_about_197
                      · rw [if_neg e9_10] at h
                        by_cases e9_11 : a0 = 11
                        · rw [if_pos e9_11] at h
                          refine g_tableIn X (tgt := 198) (off := 197) dX11_about_1 (k := 11) hr9 e9_11 (by decide) (by decide) rfl (by decide) ?_
                          refine g_aload_n X dX11_about_198 0 rfl ?_
                          refine g_getR X fH_X11_75_300 rfl dX11_about_199 ?_
                          refine g_getI X fH_X11_281_310 rfl dX11_about_202 h (fun v14 h => ?_)
                          exact g_iret X h dX11_about_205
                        · rw [if_neg e9_11] at h
                          by_cases e9_12 : a0 = 12
                          · rw [if_pos e9_12] at h
                            refine g_tableIn X (tgt := 206) (off := 205) dX11_about_1 (k := 12) hr9 e9_12 (by decide) (by decide) rfl (by decide) ?_
                            refine g_aload_n X dX11_about_206 0 rfl ?_
                            refine g_getR X fH_X11_10_300 rfl dX11_about_207 ?_
                            refine g_getI X fH_X11_284_301 rfl dX11_about_210 h (fun v15 h => ?_)
                            exact g_iret X h dX11_about_213
                          · rw [if_neg e9_12] at h
                            by_cases e9_13 : a0 = 13
                            · rw [if_pos e9_13] at h
                              refine g_tableIn X (tgt := 214) (off := 213) dX11_about_1 (k := 13) hr9 e9_13 (by decide) (by decide) rfl (by decide) ?_
                              refine g_aload_n X dX11_about_214 0 rfl ?_
                              refine g_getR X fH_X11_19_300 rfl dX11_about_215 ?_
                              refine g_getI X fH_X11_287_302 rfl dX11_about_218 h (fun v16 h => ?_)
                              exact g_iret X h dX11_about_221
                            · rw [if_neg e9_13] at h
                              refine g_tableOut X (tgt := 222) dX11_about_1 hr9 (by omega) (by decide) ?_
                              refine g_iconst X dX11_about_222 ?_
                              exact g_iret X h dX11_about_223
set_option maxHeartbeats 4000000 in
set_option maxRecDepth 100000 in
theorem cp_X11_about (l : Launch) (E : cE) (r : Nat → Nat) (N : Nat) (a0 : Int) (t : St) (z : Int × St) (h : f_X11_about N a0 t = some z) : cM l E yX11_about cX11_about 2 (some .int) rm_f_X11_about [.ref (r 300), iv a0] (gW E r shH t) (gqI E (gW E r shH) z) := by
  refine g_of (w := gW E r shH) (by decide) (Nat.le_of_ble_eq_true rfl) ?_
  intro p e s m below meth c A X
  exact g_sub (lv' := [(0, .ref (r 300)), (1, iv a0)]) [0, 1] rfl (b_f_X11_about X h)
theorem yy_X11_about : cY yX11_about cX11_about 2 (some .int) 1 := ⟨wdK_X11_about, wdZ_RX11, by decide +kernel⟩
theorem yi_X11_about : cYi yX11_about := ⟨wdN_X11_about, wdS_X11_about⟩
