theorem dX7_nest_0 : decode cX7_nest 0 = .ok (.aload_n 0, 1) := by decide +kernel
theorem dX7_nest_1 : decode cX7_nest 1 = .ok (.getfield 96, 3) := by decide +kernel
theorem dX7_nest_4 : decode cX7_nest 4 = .ok (.bipush 30, 2) := by decide +kernel
theorem dX7_nest_6 : decode cX7_nest 6 = .ok (.if_icmp .lt 9, 3) := by decide +kernel
theorem dX7_nest_9 : decode cX7_nest 9 = .ok (.aload_n 0, 1) := by decide +kernel
theorem dX7_nest_10 : decode cX7_nest 10 = .ok (.iconst 5, 1) := by decide +kernel
theorem dX7_nest_11 : decode cX7_nest 11 = .ok (.invokevirtual 48, 3) := by decide +kernel
theorem dX7_nest_14 : decode cX7_nest 14 = .ok (.ireturn, 1) := by decide +kernel
theorem dX7_nest_15 : decode cX7_nest 15 = .ok (.aload_n 0, 1) := by decide +kernel
theorem dX7_nest_16 : decode cX7_nest 16 = .ok (.dup, 1) := by decide +kernel
theorem dX7_nest_17 : decode cX7_nest 17 = .ok (.getfield 96, 3) := by decide +kernel
theorem dX7_nest_20 : decode cX7_nest 20 = .ok (.iconst 1, 1) := by decide +kernel
theorem dX7_nest_21 : decode cX7_nest 21 = .ok (.iadd, 1) := by decide +kernel
theorem dX7_nest_22 : decode cX7_nest 22 = .ok (.putfield 96, 3) := by decide +kernel
theorem dX7_nest_25 : decode cX7_nest 25 = .ok (.aload_n 0, 1) := by decide +kernel
theorem dX7_nest_26 : decode cX7_nest 26 = .ok (.invokevirtual 127, 3) := by decide +kernel
theorem dX7_nest_29 : decode cX7_nest 29 = .ok (.ireturn, 1) := by decide +kernel
abbrev rm_f_X7_nest : Room := { frames := 1, cells := 0, slots := 0, locals := 21 }
def f_X7_nest (N : Nat) (t : St) : Option (Int × St) :=
    lt1 (t.1 303 6) fun v1 =>
    cmpI v1 30 (if v1 < 30 then (lt1 (t.1 303 6) fun v2 =>
    lt1 (pI t 303 6 (v2 + 1)) fun t3 =>
    bdI (f_X7_pass N t3) fun v5 t4 =>
    boI v5 (some (v5, t4)))
    else (bdI (f_X7_wrong N 5 t) fun v7 t6 =>
    boI v7 (some (v7, t6))))
set_option maxHeartbeats 4000000 in
set_option maxRecDepth 100000 in
theorem b_f_X7_nest {p : Program} {l : Launch} {e : Env} {s : State} {m : MethodId} {args : Array Value} {below : List Frame} {meth : Method} {c : Code} {E : cE} {A : Nat → Prop} {r : Nat → Nat} {mc ms : Nat} {z : Int × St} {N : Nat} {t : St} (X : gX p s m meth c cX7_nest 1 (some .boolean) yX7_nest args E A) (h : f_X7_nest N t = some z) : gP p l e rm_f_X7_nest s m args below meth c E A 1 (MQ below ((gqI E (gW E r shH) z) A) args s mc ms A) (gW E r shH) 0 [(0, .ref (r 303))] [] t := by
  unfold f_X7_nest at h
  refine g_aload_n X dX7_nest_0 0 rfl ?_
  refine g_getI X fH_X7_96_303 rfl dX7_nest_1 h (fun v1 h => ?_)
  refine g_bipush X dX7_nest_4 (by decide) ?_
  refine g_icmp_lt (tgt := 15) X dX7_nest_6 (by decide) h (fun h => ?_) (fun h => ?_)
  · refine g_aload_n X dX7_nest_15 0 rfl ?_
    refine g_dup X rfl dX7_nest_16 ?_
    refine g_getI X fH_X7_96_303 rfl dX7_nest_17 h (fun v2 h => ?_)
    refine g_iconst X dX7_nest_20 ?_
    refine g_iadd X dX7_nest_21 ?_
    refine g_putI X fH_X7_96_303w rfl dX7_nest_22 h (fun t3 h => ?_)
    refine g_aload_n X dX7_nest_25 0 rfl ?_
    refine g_callOI (rest := []) X (fun u9 h9 => cp_X7_pass l E r N t3 u9 h9) yy_X7_pass yi_X7_pass wdM_RX7_127 ⟨_, _, oH_303⟩ rfl rfl rfl (Nat.le_of_ble_eq_true rfl) dX7_nest_26 ⟨by decide, by decide⟩ ⟨rfl, rfl⟩ h (fun v5 t4 h => ?_)
    exact g_zret X h dX7_nest_29
  · refine g_aload_n X dX7_nest_9 0 rfl ?_
    refine g_iconst X dX7_nest_10 ?_
    refine g_callOI (rest := []) X (fun u9 h9 => cp_X7_wrong l E r N 5 t u9 h9) yy_X7_wrong yi_X7_wrong wdM_RX7_48 ⟨_, _, oH_303⟩ rfl rfl rfl (Nat.le_of_ble_eq_true rfl) dX7_nest_11 ⟨by decide, by decide⟩ ⟨rfl, rfl⟩ h (fun v7 t6 h => ?_)
    exact g_zret X h dX7_nest_14
set_option maxHeartbeats 4000000 in
set_option maxRecDepth 100000 in
theorem cp_X7_nest (l : Launch) (E : cE) (r : Nat → Nat) (N : Nat) (t : St) (z : Int × St) (h : f_X7_nest N t = some z) : cM l E yX7_nest cX7_nest 1 (some .boolean) rm_f_X7_nest [.ref (r 303)] (gW E r shH t) (gqI E (gW E r shH) z) := by
  refine g_of (w := gW E r shH) (by decide) (Nat.le_of_ble_eq_true rfl) ?_
  intro p e s m below meth c A X
  exact g_sub (lv' := [(0, .ref (r 303))]) [0] rfl (b_f_X7_nest X h)
theorem yy_X7_nest : cY yX7_nest cX7_nest 1 (some .boolean) 0 := ⟨wdK_X7_nest, wdZ_RX7, by decide +kernel⟩
theorem yi_X7_nest : cYi yX7_nest := ⟨wdN_X7_nest, wdS_X7_nest⟩
theorem dX7_readDo_0 : decode cX7_readDo 0 = .ok (.aload_n 0, 1) := by decide +kernel
theorem dX7_readDo_1 : decode cX7_readDo 1 = .ok (.invokevirtual 127, 3) := by decide +kernel
theorem dX7_readDo_4 : decode cX7_readDo 4 = .ok (.ifCond .eq 17, 3) := by decide +kernel
theorem dX7_readDo_7 : decode cX7_readDo 7 = .ok (.aload_n 0, 1) := by decide +kernel
theorem dX7_readDo_8 : decode cX7_readDo 8 = .ok (.aload_n 0, 1) := by decide +kernel
theorem dX7_readDo_9 : decode cX7_readDo 9 = .ok (.getfield 19, 3) := by decide +kernel
theorem dX7_readDo_12 : decode cX7_readDo 12 = .ok (.getfield 113, 3) := by decide +kernel
theorem dX7_readDo_15 : decode cX7_readDo 15 = .ok (.invokevirtual 164, 3) := by decide +kernel
theorem dX7_readDo_18 : decode cX7_readDo 18 = .ok (.ifCond .ne 5, 3) := by decide +kernel
theorem dX7_readDo_21 : decode cX7_readDo 21 = .ok (.iconst 0, 1) := by decide +kernel
theorem dX7_readDo_22 : decode cX7_readDo 22 = .ok (.ireturn, 1) := by decide +kernel
theorem dX7_readDo_23 : decode cX7_readDo 23 = .ok (.aload_n 0, 1) := by decide +kernel
theorem dX7_readDo_24 : decode cX7_readDo 24 = .ok (.getfield 19, 3) := by decide +kernel
theorem dX7_readDo_27 : decode cX7_readDo 27 = .ok (.bipush 19, 2) := by decide +kernel
theorem dX7_readDo_29 : decode cX7_readDo 29 = .ok (.aload_n 0, 1) := by decide +kernel
theorem dX7_readDo_30 : decode cX7_readDo 30 = .ok (.getfield 137, 3) := by decide +kernel
theorem dX7_readDo_33 : decode cX7_readDo 33 = .ok (.invokevirtual 199, 3) := by decide +kernel
theorem dX7_readDo_36 : decode cX7_readDo 36 = .ok (.pop, 1) := by decide +kernel
theorem dX7_readDo_37 : decode cX7_readDo 37 = .ok (.aload_n 0, 1) := by decide +kernel
theorem dX7_readDo_38 : decode cX7_readDo 38 = .ok (.bipush 45, 2) := by decide +kernel
theorem dX7_readDo_40 : decode cX7_readDo 40 = .ok (.invokevirtual 58, 3) := by decide +kernel
theorem dX7_readDo_43 : decode cX7_readDo 43 = .ok (.ireturn, 1) := by decide +kernel
abbrev rm_f_X7_readDo : Room := { frames := 2, cells := 0, slots := 0, locals := 44 }
def f_X7_readDo (N : Nat) (t : St) : Option (Int × St) :=
    bdI (f_X7_pass N t) fun v2 t1 =>
    cmpI v2 0 (if v2 = 0 then (boI 0 (some (0, t1)))
    else (bdI (f_X7_takeKnown N 2 t1) fun v4 t3 =>
    cmpI v4 0 (if v4 = 0 then (boI 0 (some (0, t3)))
    else (lt1 (t3.1 303 9) fun v5 =>
    bdI (f_X0_put N 19 v5 t3) fun v7 t6 =>
    bdI (f_X7_take N 45 t6) fun v9 t8 =>
    boI v9 (some (v9, t8))))))
set_option maxHeartbeats 4000000 in
set_option maxRecDepth 100000 in
theorem b_f_X7_readDo {p : Program} {l : Launch} {e : Env} {s : State} {m : MethodId} {args : Array Value} {below : List Frame} {meth : Method} {c : Code} {E : cE} {A : Nat → Prop} {r : Nat → Nat} {mc ms : Nat} {z : Int × St} {N : Nat} {t : St} (X : gX p s m meth c cX7_readDo 1 (some .boolean) yX7_readDo args E A) (h : f_X7_readDo N t = some z) : gP p l e rm_f_X7_readDo s m args below meth c E A 1 (MQ below ((gqI E (gW E r shH) z) A) args s mc ms A) (gW E r shH) 0 [(0, .ref (r 303))] [] t := by
  unfold f_X7_readDo at h
  refine g_aload_n X dX7_readDo_0 0 rfl ?_
  refine g_callOI (rest := []) X (fun u9 h9 => cp_X7_pass l E r N t u9 h9) yy_X7_pass yi_X7_pass wdM_RX7_127 ⟨_, _, oH_303⟩ rfl rfl rfl (Nat.le_of_ble_eq_true rfl) dX7_readDo_1 ⟨by decide, by decide⟩ ⟨rfl, rfl⟩ h (fun v2 t1 h => ?_)
  refine g_if_eq (tgt := 21) X dX7_readDo_4 (by decide) h (fun h => ?_) (fun h => ?_)
  · refine g_iconst X dX7_readDo_21 ?_
    exact g_zret X h dX7_readDo_22
  · refine g_aload_n X dX7_readDo_7 0 rfl ?_
    refine g_aload_n X dX7_readDo_8 0 rfl ?_
    refine g_getR X fH_X7_19_303 rfl dX7_readDo_9 ?_
    refine g_getR X fH_X7_113_302 rfl dX7_readDo_12 ?_
    refine g_callOI (rest := []) X (fun u9 h9 => cp_X7_takeKnown l E r N 2 (by decide) t1 u9 h9) yy_X7_takeKnown yi_X7_takeKnown wdM_RX7_164 ⟨_, _, oH_303⟩ rfl rfl rfl (Nat.le_of_ble_eq_true rfl) dX7_readDo_15 ⟨by decide, by decide⟩ ⟨rfl, rfl⟩ h (fun v4 t3 h => ?_)
    refine g_if_ne (tgt := 23) X dX7_readDo_18 (by decide) h (fun h => ?_) (fun h => ?_)
    · refine g_aload_n X dX7_readDo_23 0 rfl ?_
      refine g_getR X fH_X7_19_303 rfl dX7_readDo_24 ?_
      refine g_bipush X dX7_readDo_27 (by decide) ?_
      refine g_aload_n X dX7_readDo_29 0 rfl ?_
      refine g_getI X fH_X7_137_303 rfl dX7_readDo_30 h (fun v5 h => ?_)
      refine g_callOI (rest := []) X (fun u9 h9 => cp_X0_put l E r N 19 v5 t3 u9 h9) yy_X0_put yi_X0_put wdM_RX7_199 ⟨_, _, oH_302⟩ rfl rfl rfl (Nat.le_of_ble_eq_true rfl) dX7_readDo_33 ⟨by decide, by decide⟩ ⟨rfl, rfl⟩ h (fun v7 t6 h => ?_)
      refine g_pop X rfl dX7_readDo_36 ?_
      refine g_aload_n X dX7_readDo_37 0 rfl ?_
      refine g_bipush X dX7_readDo_38 (by decide) ?_
      refine g_callOI (rest := []) X (fun u9 h9 => cp_X7_take l E r N 45 t6 u9 h9) yy_X7_take yi_X7_take wdM_RX7_58 ⟨_, _, oH_303⟩ rfl rfl rfl (Nat.le_of_ble_eq_true rfl) dX7_readDo_40 ⟨by decide, by decide⟩ ⟨rfl, rfl⟩ h (fun v9 t8 h => ?_)
      exact g_zret X h dX7_readDo_43
    · refine g_iconst X dX7_readDo_21 ?_
      exact g_zret X h dX7_readDo_22
set_option maxHeartbeats 4000000 in
set_option maxRecDepth 100000 in
theorem cp_X7_readDo (l : Launch) (E : cE) (r : Nat → Nat) (N : Nat) (t : St) (z : Int × St) (h : f_X7_readDo N t = some z) : cM l E yX7_readDo cX7_readDo 1 (some .boolean) rm_f_X7_readDo [.ref (r 303)] (gW E r shH t) (gqI E (gW E r shH) z) := by
  refine g_of (w := gW E r shH) (by decide) (Nat.le_of_ble_eq_true rfl) ?_
  intro p e s m below meth c A X
  exact g_sub (lv' := [(0, .ref (r 303))]) [0] rfl (b_f_X7_readDo X h)
theorem yy_X7_readDo : cY yX7_readDo cX7_readDo 1 (some .boolean) 0 := ⟨wdK_X7_readDo, wdZ_RX7, by decide +kernel⟩
theorem yi_X7_readDo : cYi yX7_readDo := ⟨wdN_X7_readDo, wdS_X7_readDo⟩
theorem dX7_putLook_0 : decode cX7_putLook 0 = .ok (.aload_n 0, 1) := by decide +kernel
theorem dX7_putLook_1 : decode cX7_putLook 1 = .ok (.iconst 0, 1) := by decide +kernel
theorem dX7_putLook_2 : decode cX7_putLook 2 = .ok (.putfield 244, 3) := by decide +kernel
theorem dX7_putLook_5 : decode cX7_putLook 5 = .ok (.aload_n 0, 1) := by decide +kernel
theorem dX7_putLook_6 : decode cX7_putLook 6 = .ok (.getfield 19, 3) := by decide +kernel
theorem dX7_putLook_9 : decode cX7_putLook 9 = .ok (.bipush 23, 2) := by decide +kernel
theorem dX7_putLook_11 : decode cX7_putLook 11 = .ok (.iconst 0, 1) := by decide +kernel
theorem dX7_putLook_12 : decode cX7_putLook 12 = .ok (.invokevirtual 199, 3) := by decide +kernel
theorem dX7_putLook_15 : decode cX7_putLook 15 = .ok (.ireturn, 1) := by decide +kernel
abbrev rm_f_X7_putLook : Room := { frames := 1, cells := 0, slots := 0, locals := 23 }
def f_X7_putLook (N : Nat) (t : St) : Option (Int × St) :=
    lt1 (pI t 303 10 0) fun t1 =>
    bdI (f_X0_put N 23 0 t1) fun v3 t2 =>
    some (v3, t2)
set_option maxHeartbeats 4000000 in
set_option maxRecDepth 100000 in
theorem b_f_X7_putLook {p : Program} {l : Launch} {e : Env} {s : State} {m : MethodId} {args : Array Value} {below : List Frame} {meth : Method} {c : Code} {E : cE} {A : Nat → Prop} {r : Nat → Nat} {mc ms : Nat} {z : Int × St} {N : Nat} {t : St} (X : gX p s m meth c cX7_putLook 1 (some .int) yX7_putLook args E A) (h : f_X7_putLook N t = some z) : gP p l e rm_f_X7_putLook s m args below meth c E A 1 (MQ below ((gqI E (gW E r shH) z) A) args s mc ms A) (gW E r shH) 0 [(0, .ref (r 303))] [] t := by
  unfold f_X7_putLook at h
  refine g_aload_n X dX7_putLook_0 0 rfl ?_
  refine g_iconst X dX7_putLook_1 ?_
  refine g_putI X fH_X7_244_303w rfl dX7_putLook_2 h (fun t1 h => ?_)
  refine g_aload_n X dX7_putLook_5 0 rfl ?_
  refine g_getR X fH_X7_19_303 rfl dX7_putLook_6 ?_
  refine g_bipush X dX7_putLook_9 (by decide) ?_
  refine g_iconst X dX7_putLook_11 ?_
  refine g_callOI (rest := []) X (fun u9 h9 => cp_X0_put l E r N 23 0 t1 u9 h9) yy_X0_put yi_X0_put wdM_RX7_199 ⟨_, _, oH_302⟩ rfl rfl rfl (Nat.le_of_ble_eq_true rfl) dX7_putLook_12 ⟨by decide, by decide⟩ ⟨rfl, rfl⟩ h (fun v3 t2 h => ?_)
  exact g_iret X h dX7_putLook_15
set_option maxHeartbeats 4000000 in
set_option maxRecDepth 100000 in
theorem cp_X7_putLook (l : Launch) (E : cE) (r : Nat → Nat) (N : Nat) (t : St) (z : Int × St) (h : f_X7_putLook N t = some z) : cM l E yX7_putLook cX7_putLook 1 (some .int) rm_f_X7_putLook [.ref (r 303)] (gW E r shH t) (gqI E (gW E r shH) z) := by
  refine g_of (w := gW E r shH) (by decide) (Nat.le_of_ble_eq_true rfl) ?_
  intro p e s m below meth c A X
  exact g_sub (lv' := [(0, .ref (r 303))]) [0] rfl (b_f_X7_putLook X h)
theorem yy_X7_putLook : cY yX7_putLook cX7_putLook 1 (some .int) 0 := ⟨wdK_X7_putLook, wdZ_RX7, by decide +kernel⟩
theorem yi_X7_putLook : cYi yX7_putLook := ⟨wdN_X7_putLook, wdS_X7_putLook⟩
abbrev rmS_readEither (D : Nat) : Room := { frames := D + 2, cells := 0, slots := 0, locals := 60 * D + 45 }
theorem yy_X7_readEither : cY yX7_readEither cX7_readEither 3 (some .boolean) 1 := ⟨wdK_X7_readEither, wdZ_RX7, by decide +kernel⟩
theorem yi_X7_readEither : cYi yX7_readEither := ⟨wdN_X7_readEither, wdS_X7_readEither⟩
theorem yy_X7_readBoth : cY yX7_readBoth cX7_readBoth 3 (some .boolean) 1 := ⟨wdK_X7_readBoth, wdZ_RX7, by decide +kernel⟩
theorem yi_X7_readBoth : cYi yX7_readBoth := ⟨wdN_X7_readBoth, wdS_X7_readBoth⟩
theorem yy_X7_readSingle : cY yX7_readSingle cX7_readSingle 2 (some .boolean) 1 := ⟨wdK_X7_readSingle, wdZ_RX7, by decide +kernel⟩
theorem yi_X7_readSingle : cYi yX7_readSingle := ⟨wdN_X7_readSingle, wdS_X7_readSingle⟩
theorem yy_X7_readOne : cY yX7_readOne cX7_readOne 4 (some .boolean) 0 := ⟨wdK_X7_readOne, wdZ_RX7, by decide +kernel⟩
theorem yi_X7_readOne : cYi yX7_readOne := ⟨wdN_X7_readOne, wdS_X7_readOne⟩
theorem yy_X7_readTest : cY yX7_readTest cX7_readTest 1 (some .boolean) 0 := ⟨wdK_X7_readTest, wdZ_RX7, by decide +kernel⟩
theorem yi_X7_readTest : cYi yX7_readTest := ⟨wdN_X7_readTest, wdS_X7_readTest⟩
theorem yy_X7_readNot : cY yX7_readNot cX7_readNot 2 (some .boolean) 1 := ⟨wdK_X7_readNot, wdZ_RX7, by decide +kernel⟩
theorem yi_X7_readNot : cYi yX7_readNot := ⟨wdN_X7_readNot, wdS_X7_readNot⟩
theorem yy_X7_readGroup : cY yX7_readGroup cX7_readGroup 2 (some .boolean) 1 := ⟨wdK_X7_readGroup, wdZ_RX7, by decide +kernel⟩
theorem yi_X7_readGroup : cYi yX7_readGroup := ⟨wdN_X7_readGroup, wdS_X7_readGroup⟩
theorem yy_X7_readForms : cY yX7_readForms cX7_readForms 2 (some .boolean) 0 := ⟨wdK_X7_readForms, wdZ_RX7, by decide +kernel⟩
theorem yi_X7_readForms : cYi yX7_readForms := ⟨wdN_X7_readForms, wdS_X7_readForms⟩
theorem dX7_readEither_0 : decode cX7_readEither 0 = .ok (.aload_n 0, 1) := by decide +kernel
theorem dX7_readEither_1 : decode cX7_readEither 1 = .ok (.iload_n 1, 1) := by decide +kernel
theorem dX7_readEither_2 : decode cX7_readEither 2 = .ok (.invokevirtual 247, 3) := by decide +kernel
theorem dX7_readEither_5 : decode cX7_readEither 5 = .ok (.ifCond .ne 5, 3) := by decide +kernel
theorem dX7_readEither_8 : decode cX7_readEither 8 = .ok (.iconst 0, 1) := by decide +kernel
theorem dX7_readEither_9 : decode cX7_readEither 9 = .ok (.ireturn, 1) := by decide +kernel
theorem dX7_readEither_10 : decode cX7_readEither 10 = .ok (.iconst 0, 1) := by decide +kernel
theorem dX7_readEither_11 : decode cX7_readEither 11 = .ok (.istore_n 2, 1) := by decide +kernel
theorem dX7_readEither_12 : decode cX7_readEither 12 = .ok (.iload_n 2, 1) := by decide +kernel
theorem dX7_readEither_13 : decode cX7_readEither 13 = .ok (.sipush 4096, 3) := by decide +kernel
theorem dX7_readEither_16 : decode cX7_readEither 16 = .ok (.if_icmp .ge 46, 3) := by decide +kernel
theorem dX7_readEither_19 : decode cX7_readEither 19 = .ok (.aload_n 0, 1) := by decide +kernel
theorem dX7_readEither_20 : decode cX7_readEither 20 = .ok (.getfield 29, 3) := by decide +kernel
theorem dX7_readEither_23 : decode cX7_readEither 23 = .ok (.bipush 24, 2) := by decide +kernel
theorem dX7_readEither_25 : decode cX7_readEither 25 = .ok (.if_icmp .ne 37, 3) := by decide +kernel
theorem dX7_readEither_28 : decode cX7_readEither 28 = .ok (.aload_n 0, 1) := by decide +kernel
theorem dX7_readEither_29 : decode cX7_readEither 29 = .ok (.invokevirtual 127, 3) := by decide +kernel
theorem dX7_readEither_32 : decode cX7_readEither 32 = .ok (.ifCond .eq 11, 3) := by decide +kernel
theorem dX7_readEither_35 : decode cX7_readEither 35 = .ok (.aload_n 0, 1) := by decide +kernel
theorem dX7_readEither_36 : decode cX7_readEither 36 = .ok (.iload_n 1, 1) := by decide +kernel
theorem dX7_readEither_37 : decode cX7_readEither 37 = .ok (.invokevirtual 247, 3) := by decide +kernel
theorem dX7_readEither_40 : decode cX7_readEither 40 = .ok (.ifCond .ne 5, 3) := by decide +kernel
theorem dX7_readEither_43 : decode cX7_readEither 43 = .ok (.iconst 0, 1) := by decide +kernel
theorem dX7_readEither_44 : decode cX7_readEither 44 = .ok (.ireturn, 1) := by decide +kernel
theorem dX7_readEither_45 : decode cX7_readEither 45 = .ok (.aload_n 0, 1) := by decide +kernel
theorem dX7_readEither_46 : decode cX7_readEither 46 = .ok (.getfield 19, 3) := by decide +kernel
theorem dX7_readEither_49 : decode cX7_readEither 49 = .ok (.bipush 11, 2) := by decide +kernel
theorem dX7_readEither_51 : decode cX7_readEither 51 = .ok (.iconst 0, 1) := by decide +kernel
theorem dX7_readEither_52 : decode cX7_readEither 52 = .ok (.invokevirtual 199, 3) := by decide +kernel
theorem dX7_readEither_55 : decode cX7_readEither 55 = .ok (.pop, 1) := by decide +kernel
theorem dX7_readEither_56 : decode cX7_readEither 56 = .ok (.iinc 2 1, 3) := by decide +kernel
theorem dX7_readEither_59 : decode cX7_readEither 59 = .ok (.goto (-47), 3) := by decide +kernel
theorem dX7_readEither_62 : decode cX7_readEither 62 = .ok (.iconst 1, 1) := by decide +kernel
theorem dX7_readEither_63 : decode cX7_readEither 63 = .ok (.ireturn, 1) := by decide +kernel
def o_X7_readEither_L12 (N : Nat) (fo_readBoth : (Int → St → Option (Int × St))) (K6 : (St → Option (Int × St))) (y3 : Int) : Nat → Int → St → Option (Int × St)
  | 0, _, _ => none
  | n9 + 1, x4, t5 =>
    cmpI x4 4096 (if x4 < 4096 then (lt1 (t5.1 303 3) fun v7 =>
    cmpI v7 24 (if v7 = 24 then (bdI (f_X7_pass N t5) fun v9 t8 =>
    cmpI v9 0 (if v9 = 0 then (boI 0 (some (0, t8)))
    else (bdI (fo_readBoth y3 t8) fun v11 t10 =>
    cmpI v11 0 (if v11 = 0 then (boI 0 (some (0, t10)))
    else (bdI (f_X0_put N 11 0 t10) fun v13 t12 =>
    o_X7_readEither_L12 N fo_readBoth K6 y3 n9 (x4 + 1) t12)))))
    else (K6 t5)))
    else (K6 t5))
def o_X7_readEither (N : Nat) (fo_readBoth : (Int → St → Option (Int × St))) (a0 : Int) (t : St) : Option (Int × St) :=
    bdI (fo_readBoth a0 t) fun v2 t1 =>
    cmpI v2 0 (if v2 = 0 then (boI 0 (some (0, t1)))
    else (o_X7_readEither_L12 N fo_readBoth (fun (t14 : St) => boI 1 (some (1, t14))) a0 N 0 t1))
set_option maxHeartbeats 4000000 in
set_option maxRecDepth 100000 in
theorem t_o_X7_readEither_L12 {p : Program} {l : Launch} {e : Env} {s : State} {m : MethodId} {args : Array Value} {below : List Frame} {meth : Method} {c : Code} {E : cE} {A : Nat → Prop} {r : Nat → Nat} {mc ms : Nat} {z : Int × St} {N : Nat} {D9 : Nat} {fo_readBoth : (Int → St → Option (Int × St))} {K6 : (St → Option (Int × St))} {y3 : Int} (X : gX p s m meth c cX7_readEither 3 (some .boolean) yX7_readEither args E A) (ho_readBoth : ∀ (a0 : Int) (t : St) (z : Int × St), fo_readBoth a0 t = some z → cM l E yX7_readBoth cX7_readBoth 3 (some .boolean) (rmS_readEither D9) [.ref (r 303), iv a0] (gW E r shH t) (gqI E (gW E r shH) z)) (hK6 : ∀ (t9 : St), K6 t9 = some z → gP p l e (rmS_readEither (D9 + 1)) s m args below meth c E A 3 (MQ below ((gqI E (gW E r shH) z) A) args s mc ms A) (gW E r shH) 62 [] [] t9) : ∀ (n9 : Nat) (x4 : Int) (t5 : St), o_X7_readEither_L12 N fo_readBoth K6 y3 n9 x4 t5 = some z → gP p l e (rmS_readEither (D9 + 1)) s m args below meth c E A 3 (MQ below ((gqI E (gW E r shH) z) A) args s mc ms A) (gW E r shH) 12 [(0, .ref (r 303)), (1, iv y3), (2, iv x4)] [] t5 := by
  intro n9
  induction n9 with
  | zero => intro x4 t5 h; cases h
  | succ n9 ih =>
    intro x4 t5 h
    unfold o_X7_readEither_L12 at h
    refine g_iload_n X dX7_readEither_12 2 rfl ?_
    refine g_sipush X dX7_readEither_13 (by decide) ?_
    refine g_icmp_ge (tgt := 62) X dX7_readEither_16 (by decide) h (fun h => ?_) (fun h => ?_)
    · exact g_sub (lv' := []) [] rfl (hK6 t5 h)
    · refine g_aload_n X dX7_readEither_19 0 rfl ?_
      refine g_getI X fH_X7_29_303 rfl dX7_readEither_20 h (fun v7 h => ?_)
      refine g_bipush X dX7_readEither_23 (by decide) ?_
      refine g_icmp_ne (tgt := 62) X dX7_readEither_25 (by decide) h (fun h => ?_) (fun h => ?_)
      · exact g_sub (lv' := []) [] rfl (hK6 t5 h)
      · refine g_aload_n X dX7_readEither_28 0 rfl ?_
        refine g_callOI (rest := []) X (fun u9 h9 => cp_X7_pass l E r N t5 u9 h9) yy_X7_pass yi_X7_pass wdM_RX7_127 ⟨_, _, oH_303⟩ rfl rfl rfl (Nat.le_of_ble_eq_true rfl) dX7_readEither_29 ⟨by show 0 + 1 ≤ D9 + 1 + 2; omega, by show 8 + (2 + 11) + 0 ≤ 60 * (D9 + 1) + 45; omega⟩ ⟨rfl, rfl⟩ h (fun v9 t8 h => ?_)
        refine g_if_eq (tgt := 43) X dX7_readEither_32 (by decide) h (fun h => ?_) (fun h => ?_)
        · refine g_iconst X dX7_readEither_43 ?_
          exact g_zret X h dX7_readEither_44
        · refine g_aload_n X dX7_readEither_35 0 rfl ?_
          refine g_iload_n X dX7_readEither_36 1 rfl ?_
          refine g_callOI (rest := []) X (fun u9 h9 => ho_readBoth y3 t8 u9 h9) yy_X7_readBoth yi_X7_readBoth wdM_RX7_247 ⟨_, _, oH_303⟩ rfl rfl rfl (Nat.le_of_ble_eq_true rfl) dX7_readEither_37 ⟨by show D9 + 2 + 1 ≤ D9 + 1 + 2; omega, by show 8 + (3 + 11) + (60 * D9 + 45) ≤ 60 * (D9 + 1) + 45; omega⟩ ⟨rfl, rfl⟩ h (fun v11 t10 h => ?_)
          refine g_if_ne (tgt := 45) X dX7_readEither_40 (by decide) h (fun h => ?_) (fun h => ?_)
          · refine g_aload_n X dX7_readEither_45 0 rfl ?_
            refine g_getR X fH_X7_19_303 rfl dX7_readEither_46 ?_
            refine g_bipush X dX7_readEither_49 (by decide) ?_
            refine g_iconst X dX7_readEither_51 ?_
            refine g_callOI (rest := []) X (fun u9 h9 => cp_X0_put l E r N 11 0 t10 u9 h9) yy_X0_put yi_X0_put wdM_RX7_199 ⟨_, _, oH_302⟩ rfl rfl rfl (Nat.le_of_ble_eq_true rfl) dX7_readEither_52 ⟨by show 0 + 1 ≤ D9 + 1 + 2; omega, by show 8 + (4 + 11) + 0 ≤ 60 * (D9 + 1) + 45; omega⟩ ⟨rfl, rfl⟩ h (fun v13 t12 h => ?_)
            refine g_pop X rfl dX7_readEither_55 ?_
            refine g_iinc (lv' := [(2, iv (x4 + 1)), (0, .ref (r 303)), (1, iv y3)]) X dX7_readEither_56 (k := 2) rfl (by decide) rfl ?_
            refine g_goto (tgt := 12) X dX7_readEither_59 (by decide) ?_
            exact g_sub (lv' := [(0, .ref (r 303)), (1, iv y3), (2, iv (x4 + 1))]) [1, 2, 0] rfl (ih (x4 + 1) t12 h)
          · refine g_iconst X dX7_readEither_43 ?_
            exact g_zret X h dX7_readEither_44
set_option maxHeartbeats 4000000 in
set_option maxRecDepth 100000 in
theorem b_o_X7_readEither {p : Program} {l : Launch} {e : Env} {s : State} {m : MethodId} {args : Array Value} {below : List Frame} {meth : Method} {c : Code} {E : cE} {A : Nat → Prop} {r : Nat → Nat} {mc ms : Nat} {z : Int × St} {N : Nat} {D9 : Nat} {fo_readBoth : (Int → St → Option (Int × St))} (ho_readBoth : ∀ (a0 : Int) (t : St) (z : Int × St), fo_readBoth a0 t = some z → cM l E yX7_readBoth cX7_readBoth 3 (some .boolean) (rmS_readEither D9) [.ref (r 303), iv a0] (gW E r shH t) (gqI E (gW E r shH) z)) {a0 : Int} {t : St} (X : gX p s m meth c cX7_readEither 3 (some .boolean) yX7_readEither args E A) (h : o_X7_readEither N fo_readBoth a0 t = some z) : gP p l e (rmS_readEither (D9 + 1)) s m args below meth c E A 3 (MQ below ((gqI E (gW E r shH) z) A) args s mc ms A) (gW E r shH) 0 [(0, .ref (r 303)), (1, iv a0)] [] t := by
  unfold o_X7_readEither at h
  refine g_aload_n X dX7_readEither_0 0 rfl ?_
  refine g_iload_n X dX7_readEither_1 1 rfl ?_
  refine g_callOI (rest := []) X (fun u9 h9 => ho_readBoth a0 t u9 h9) yy_X7_readBoth yi_X7_readBoth wdM_RX7_247 ⟨_, _, oH_303⟩ rfl rfl rfl (Nat.le_of_ble_eq_true rfl) dX7_readEither_2 ⟨by show D9 + 2 + 1 ≤ D9 + 1 + 2; omega, by show 8 + (3 + 11) + (60 * D9 + 45) ≤ 60 * (D9 + 1) + 45; omega⟩ ⟨rfl, rfl⟩ h (fun v2 t1 h => ?_)
  refine g_if_ne (tgt := 10) X dX7_readEither_5 (by decide) h (fun h => ?_) (fun h => ?_)
  · refine g_iconst X dX7_readEither_10 ?_
    refine g_istore_n (lv' := [(2, iv 0), (0, .ref (r 303)), (1, iv a0)]) X dX7_readEither_11 rfl (by decide) rfl ?_
    refine g_sub (lv' := [(0, .ref (r 303)), (1, iv a0), (2, iv 0)]) [1, 2, 0] rfl (t_o_X7_readEither_L12 X ho_readBoth (fun t14 h => ?_) N 0 t1 h)
    · refine g_iconst X dX7_readEither_62 ?_
      exact g_zret X h dX7_readEither_63
  · refine g_iconst X dX7_readEither_8 ?_
    exact g_zret X h dX7_readEither_9
set_option maxHeartbeats 4000000 in
set_option maxRecDepth 100000 in
theorem cpo_X7_readEither (l : Launch) (E : cE) (r : Nat → Nat) (N : Nat) (D9 : Nat) (fo_readBoth : (Int → St → Option (Int × St))) (ho_readBoth : ∀ (a0 : Int) (t : St) (z : Int × St), fo_readBoth a0 t = some z → cM l E yX7_readBoth cX7_readBoth 3 (some .boolean) (rmS_readEither D9) [.ref (r 303), iv a0] (gW E r shH t) (gqI E (gW E r shH) z)) (a0 : Int) (t : St) (z : Int × St) (h : o_X7_readEither N fo_readBoth a0 t = some z) : cM l E yX7_readEither cX7_readEither 3 (some .boolean) (rmS_readEither (D9 + 1)) [.ref (r 303), iv a0] (gW E r shH t) (gqI E (gW E r shH) z) := by
  refine g_of (w := gW E r shH) (by decide) (Nat.le_of_ble_eq_true rfl) ?_
  intro p e s m below meth c A X
  exact g_sub (lv' := [(0, .ref (r 303)), (1, iv a0)]) [0, 1] rfl (b_o_X7_readEither ho_readBoth X h)
theorem dX7_readBoth_0 : decode cX7_readBoth 0 = .ok (.aload_n 0, 1) := by decide +kernel
theorem dX7_readBoth_1 : decode cX7_readBoth 1 = .ok (.iload_n 1, 1) := by decide +kernel
theorem dX7_readBoth_2 : decode cX7_readBoth 2 = .ok (.invokevirtual 250, 3) := by decide +kernel
theorem dX7_readBoth_5 : decode cX7_readBoth 5 = .ok (.ifCond .ne 5, 3) := by decide +kernel
theorem dX7_readBoth_8 : decode cX7_readBoth 8 = .ok (.iconst 0, 1) := by decide +kernel
theorem dX7_readBoth_9 : decode cX7_readBoth 9 = .ok (.ireturn, 1) := by decide +kernel
theorem dX7_readBoth_10 : decode cX7_readBoth 10 = .ok (.iconst 0, 1) := by decide +kernel
theorem dX7_readBoth_11 : decode cX7_readBoth 11 = .ok (.istore_n 2, 1) := by decide +kernel
theorem dX7_readBoth_12 : decode cX7_readBoth 12 = .ok (.iload_n 2, 1) := by decide +kernel
theorem dX7_readBoth_13 : decode cX7_readBoth 13 = .ok (.sipush 4096, 3) := by decide +kernel
theorem dX7_readBoth_16 : decode cX7_readBoth 16 = .ok (.if_icmp .ge 46, 3) := by decide +kernel
theorem dX7_readBoth_19 : decode cX7_readBoth 19 = .ok (.aload_n 0, 1) := by decide +kernel
theorem dX7_readBoth_20 : decode cX7_readBoth 20 = .ok (.getfield 29, 3) := by decide +kernel
theorem dX7_readBoth_23 : decode cX7_readBoth 23 = .ok (.bipush 25, 2) := by decide +kernel
theorem dX7_readBoth_25 : decode cX7_readBoth 25 = .ok (.if_icmp .ne 37, 3) := by decide +kernel
theorem dX7_readBoth_28 : decode cX7_readBoth 28 = .ok (.aload_n 0, 1) := by decide +kernel
theorem dX7_readBoth_29 : decode cX7_readBoth 29 = .ok (.invokevirtual 127, 3) := by decide +kernel
theorem dX7_readBoth_32 : decode cX7_readBoth 32 = .ok (.ifCond .eq 11, 3) := by decide +kernel
theorem dX7_readBoth_35 : decode cX7_readBoth 35 = .ok (.aload_n 0, 1) := by decide +kernel
theorem dX7_readBoth_36 : decode cX7_readBoth 36 = .ok (.iload_n 1, 1) := by decide +kernel
theorem dX7_readBoth_37 : decode cX7_readBoth 37 = .ok (.invokevirtual 250, 3) := by decide +kernel
theorem dX7_readBoth_40 : decode cX7_readBoth 40 = .ok (.ifCond .ne 5, 3) := by decide +kernel
theorem dX7_readBoth_43 : decode cX7_readBoth 43 = .ok (.iconst 0, 1) := by decide +kernel
theorem dX7_readBoth_44 : decode cX7_readBoth 44 = .ok (.ireturn, 1) := by decide +kernel
theorem dX7_readBoth_45 : decode cX7_readBoth 45 = .ok (.aload_n 0, 1) := by decide +kernel
theorem dX7_readBoth_46 : decode cX7_readBoth 46 = .ok (.getfield 19, 3) := by decide +kernel
theorem dX7_readBoth_49 : decode cX7_readBoth 49 = .ok (.bipush 10, 2) := by decide +kernel
theorem dX7_readBoth_51 : decode cX7_readBoth 51 = .ok (.iconst 0, 1) := by decide +kernel
theorem dX7_readBoth_52 : decode cX7_readBoth 52 = .ok (.invokevirtual 199, 3) := by decide +kernel
theorem dX7_readBoth_55 : decode cX7_readBoth 55 = .ok (.pop, 1) := by decide +kernel
theorem dX7_readBoth_56 : decode cX7_readBoth 56 = .ok (.iinc 2 1, 3) := by decide +kernel
theorem dX7_readBoth_59 : decode cX7_readBoth 59 = .ok (.goto (-47), 3) := by decide +kernel
theorem dX7_readBoth_62 : decode cX7_readBoth 62 = .ok (.iconst 1, 1) := by decide +kernel
theorem dX7_readBoth_63 : decode cX7_readBoth 63 = .ok (.ireturn, 1) := by decide +kernel
def o_X7_readBoth_L12 (N : Nat) (fo_readSingle : (Int → St → Option (Int × St))) (K6 : (St → Option (Int × St))) (y3 : Int) : Nat → Int → St → Option (Int × St)
  | 0, _, _ => none
  | n9 + 1, x4, t5 =>
    cmpI x4 4096 (if x4 < 4096 then (lt1 (t5.1 303 3) fun v7 =>
    cmpI v7 25 (if v7 = 25 then (bdI (f_X7_pass N t5) fun v9 t8 =>
    cmpI v9 0 (if v9 = 0 then (boI 0 (some (0, t8)))
    else (bdI (fo_readSingle y3 t8) fun v11 t10 =>
    cmpI v11 0 (if v11 = 0 then (boI 0 (some (0, t10)))
    else (bdI (f_X0_put N 10 0 t10) fun v13 t12 =>
    o_X7_readBoth_L12 N fo_readSingle K6 y3 n9 (x4 + 1) t12)))))
    else (K6 t5)))
    else (K6 t5))
def o_X7_readBoth (N : Nat) (fo_readSingle : (Int → St → Option (Int × St))) (a0 : Int) (t : St) : Option (Int × St) :=
    bdI (fo_readSingle a0 t) fun v2 t1 =>
    cmpI v2 0 (if v2 = 0 then (boI 0 (some (0, t1)))
    else (o_X7_readBoth_L12 N fo_readSingle (fun (t14 : St) => boI 1 (some (1, t14))) a0 N 0 t1))
set_option maxHeartbeats 4000000 in
set_option maxRecDepth 100000 in
theorem t_o_X7_readBoth_L12 {p : Program} {l : Launch} {e : Env} {s : State} {m : MethodId} {args : Array Value} {below : List Frame} {meth : Method} {c : Code} {E : cE} {A : Nat → Prop} {r : Nat → Nat} {mc ms : Nat} {z : Int × St} {N : Nat} {D9 : Nat} {fo_readSingle : (Int → St → Option (Int × St))} {K6 : (St → Option (Int × St))} {y3 : Int} (X : gX p s m meth c cX7_readBoth 3 (some .boolean) yX7_readBoth args E A) (ho_readSingle : ∀ (a0 : Int) (t : St) (z : Int × St), fo_readSingle a0 t = some z → cM l E yX7_readSingle cX7_readSingle 2 (some .boolean) (rmS_readEither D9) [.ref (r 303), iv a0] (gW E r shH t) (gqI E (gW E r shH) z)) (hK6 : ∀ (t9 : St), K6 t9 = some z → gP p l e (rmS_readEither (D9 + 1)) s m args below meth c E A 3 (MQ below ((gqI E (gW E r shH) z) A) args s mc ms A) (gW E r shH) 62 [] [] t9) : ∀ (n9 : Nat) (x4 : Int) (t5 : St), o_X7_readBoth_L12 N fo_readSingle K6 y3 n9 x4 t5 = some z → gP p l e (rmS_readEither (D9 + 1)) s m args below meth c E A 3 (MQ below ((gqI E (gW E r shH) z) A) args s mc ms A) (gW E r shH) 12 [(0, .ref (r 303)), (1, iv y3), (2, iv x4)] [] t5 := by
  intro n9
  induction n9 with
  | zero => intro x4 t5 h; cases h
  | succ n9 ih =>
    intro x4 t5 h
    unfold o_X7_readBoth_L12 at h
    refine g_iload_n X dX7_readBoth_12 2 rfl ?_
    refine g_sipush X dX7_readBoth_13 (by decide) ?_
    refine g_icmp_ge (tgt := 62) X dX7_readBoth_16 (by decide) h (fun h => ?_) (fun h => ?_)
    · exact g_sub (lv' := []) [] rfl (hK6 t5 h)
    · refine g_aload_n X dX7_readBoth_19 0 rfl ?_
      refine g_getI X fH_X7_29_303 rfl dX7_readBoth_20 h (fun v7 h => ?_)
      refine g_bipush X dX7_readBoth_23 (by decide) ?_
      refine g_icmp_ne (tgt := 62) X dX7_readBoth_25 (by decide) h (fun h => ?_) (fun h => ?_)
      · exact g_sub (lv' := []) [] rfl (hK6 t5 h)
      · refine g_aload_n X dX7_readBoth_28 0 rfl ?_
        refine g_callOI (rest := []) X (fun u9 h9 => cp_X7_pass l E r N t5 u9 h9) yy_X7_pass yi_X7_pass wdM_RX7_127 ⟨_, _, oH_303⟩ rfl rfl rfl (Nat.le_of_ble_eq_true rfl) dX7_readBoth_29 ⟨by show 0 + 1 ≤ D9 + 1 + 2; omega, by show 8 + (2 + 11) + 0 ≤ 60 * (D9 + 1) + 45; omega⟩ ⟨rfl, rfl⟩ h (fun v9 t8 h => ?_)
        refine g_if_eq (tgt := 43) X dX7_readBoth_32 (by decide) h (fun h => ?_) (fun h => ?_)
        · refine g_iconst X dX7_readBoth_43 ?_
          exact g_zret X h dX7_readBoth_44
        · refine g_aload_n X dX7_readBoth_35 0 rfl ?_
          refine g_iload_n X dX7_readBoth_36 1 rfl ?_
          refine g_callOI (rest := []) X (fun u9 h9 => ho_readSingle y3 t8 u9 h9) yy_X7_readSingle yi_X7_readSingle wdM_RX7_250 ⟨_, _, oH_303⟩ rfl rfl rfl (Nat.le_of_ble_eq_true rfl) dX7_readBoth_37 ⟨by show D9 + 2 + 1 ≤ D9 + 1 + 2; omega, by show 8 + (2 + 11) + (60 * D9 + 45) ≤ 60 * (D9 + 1) + 45; omega⟩ ⟨rfl, rfl⟩ h (fun v11 t10 h => ?_)
          refine g_if_ne (tgt := 45) X dX7_readBoth_40 (by decide) h (fun h => ?_) (fun h => ?_)
          · refine g_aload_n X dX7_readBoth_45 0 rfl ?_
            refine g_getR X fH_X7_19_303 rfl dX7_readBoth_46 ?_
            refine g_bipush X dX7_readBoth_49 (by decide) ?_
            refine g_iconst X dX7_readBoth_51 ?_
            refine g_callOI (rest := []) X (fun u9 h9 => cp_X0_put l E r N 10 0 t10 u9 h9) yy_X0_put yi_X0_put wdM_RX7_199 ⟨_, _, oH_302⟩ rfl rfl rfl (Nat.le_of_ble_eq_true rfl) dX7_readBoth_52 ⟨by show 0 + 1 ≤ D9 + 1 + 2; omega, by show 8 + (4 + 11) + 0 ≤ 60 * (D9 + 1) + 45; omega⟩ ⟨rfl, rfl⟩ h (fun v13 t12 h => ?_)
            refine g_pop X rfl dX7_readBoth_55 ?_
            refine g_iinc (lv' := [(2, iv (x4 + 1)), (0, .ref (r 303)), (1, iv y3)]) X dX7_readBoth_56 (k := 2) rfl (by decide) rfl ?_
            refine g_goto (tgt := 12) X dX7_readBoth_59 (by decide) ?_
            exact g_sub (lv' := [(0, .ref (r 303)), (1, iv y3), (2, iv (x4 + 1))]) [1, 2, 0] rfl (ih (x4 + 1) t12 h)
          · refine g_iconst X dX7_readBoth_43 ?_
            exact g_zret X h dX7_readBoth_44
set_option maxHeartbeats 4000000 in
set_option maxRecDepth 100000 in
theorem b_o_X7_readBoth {p : Program} {l : Launch} {e : Env} {s : State} {m : MethodId} {args : Array Value} {below : List Frame} {meth : Method} {c : Code} {E : cE} {A : Nat → Prop} {r : Nat → Nat} {mc ms : Nat} {z : Int × St} {N : Nat} {D9 : Nat} {fo_readSingle : (Int → St → Option (Int × St))} (ho_readSingle : ∀ (a0 : Int) (t : St) (z : Int × St), fo_readSingle a0 t = some z → cM l E yX7_readSingle cX7_readSingle 2 (some .boolean) (rmS_readEither D9) [.ref (r 303), iv a0] (gW E r shH t) (gqI E (gW E r shH) z)) {a0 : Int} {t : St} (X : gX p s m meth c cX7_readBoth 3 (some .boolean) yX7_readBoth args E A) (h : o_X7_readBoth N fo_readSingle a0 t = some z) : gP p l e (rmS_readEither (D9 + 1)) s m args below meth c E A 3 (MQ below ((gqI E (gW E r shH) z) A) args s mc ms A) (gW E r shH) 0 [(0, .ref (r 303)), (1, iv a0)] [] t := by
  unfold o_X7_readBoth at h
  refine g_aload_n X dX7_readBoth_0 0 rfl ?_
  refine g_iload_n X dX7_readBoth_1 1 rfl ?_
  refine g_callOI (rest := []) X (fun u9 h9 => ho_readSingle a0 t u9 h9) yy_X7_readSingle yi_X7_readSingle wdM_RX7_250 ⟨_, _, oH_303⟩ rfl rfl rfl (Nat.le_of_ble_eq_true rfl) dX7_readBoth_2 ⟨by show D9 + 2 + 1 ≤ D9 + 1 + 2; omega, by show 8 + (2 + 11) + (60 * D9 + 45) ≤ 60 * (D9 + 1) + 45; omega⟩ ⟨rfl, rfl⟩ h (fun v2 t1 h => ?_)
  refine g_if_ne (tgt := 10) X dX7_readBoth_5 (by decide) h (fun h => ?_) (fun h => ?_)
  · refine g_iconst X dX7_readBoth_10 ?_
    refine g_istore_n (lv' := [(2, iv 0), (0, .ref (r 303)), (1, iv a0)]) X dX7_readBoth_11 rfl (by decide) rfl ?_
    refine g_sub (lv' := [(0, .ref (r 303)), (1, iv a0), (2, iv 0)]) [1, 2, 0] rfl (t_o_X7_readBoth_L12 X ho_readSingle (fun t14 h => ?_) N 0 t1 h)
    · refine g_iconst X dX7_readBoth_62 ?_
      exact g_zret X h dX7_readBoth_63
  · refine g_iconst X dX7_readBoth_8 ?_
    exact g_zret X h dX7_readBoth_9
set_option maxHeartbeats 4000000 in
set_option maxRecDepth 100000 in
theorem cpo_X7_readBoth (l : Launch) (E : cE) (r : Nat → Nat) (N : Nat) (D9 : Nat) (fo_readSingle : (Int → St → Option (Int × St))) (ho_readSingle : ∀ (a0 : Int) (t : St) (z : Int × St), fo_readSingle a0 t = some z → cM l E yX7_readSingle cX7_readSingle 2 (some .boolean) (rmS_readEither D9) [.ref (r 303), iv a0] (gW E r shH t) (gqI E (gW E r shH) z)) (a0 : Int) (t : St) (z : Int × St) (h : o_X7_readBoth N fo_readSingle a0 t = some z) : cM l E yX7_readBoth cX7_readBoth 3 (some .boolean) (rmS_readEither (D9 + 1)) [.ref (r 303), iv a0] (gW E r shH t) (gqI E (gW E r shH) z) := by
  refine g_of (w := gW E r shH) (by decide) (Nat.le_of_ble_eq_true rfl) ?_
  intro p e s m below meth c A X
  exact g_sub (lv' := [(0, .ref (r 303)), (1, iv a0)]) [0, 1] rfl (b_o_X7_readBoth ho_readSingle X h)
theorem dX7_readSingle_0 : decode cX7_readSingle 0 = .ok (.iload_n 1, 1) := by decide +kernel
theorem dX7_readSingle_1 : decode cX7_readSingle 1 = .ok (.ifCond .eq 10, 3) := by decide +kernel
theorem dX7_readSingle_4 : decode cX7_readSingle 4 = .ok (.aload_n 0, 1) := by decide +kernel
theorem dX7_readSingle_5 : decode cX7_readSingle 5 = .ok (.invokevirtual 253, 3) := by decide +kernel
theorem dX7_readSingle_8 : decode cX7_readSingle 8 = .ok (.goto 7, 3) := by decide +kernel
theorem dX7_readSingle_11 : decode cX7_readSingle 11 = .ok (.aload_n 0, 1) := by decide +kernel
theorem dX7_readSingle_12 : decode cX7_readSingle 12 = .ok (.invokevirtual 256, 3) := by decide +kernel
theorem dX7_readSingle_15 : decode cX7_readSingle 15 = .ok (.ireturn, 1) := by decide +kernel
def o_X7_readSingle (N : Nat) (fo_readTest : (St → Option (Int × St))) (fo_readOne : (St → Option (Int × St))) (a0 : Int) (t : St) : Option (Int × St) :=
    cmpI a0 0 (if a0 = 0 then (bdI (fo_readOne t) fun v2 t1 =>
    boI v2 (some (v2, t1)))
    else (bdI (fo_readTest t) fun v4 t3 =>
    boI v4 (some (v4, t3))))
set_option maxHeartbeats 4000000 in
set_option maxRecDepth 100000 in
theorem b_o_X7_readSingle {p : Program} {l : Launch} {e : Env} {s : State} {m : MethodId} {args : Array Value} {below : List Frame} {meth : Method} {c : Code} {E : cE} {A : Nat → Prop} {r : Nat → Nat} {mc ms : Nat} {z : Int × St} {N : Nat} {D9 : Nat} {fo_readTest : (St → Option (Int × St))} {fo_readOne : (St → Option (Int × St))} (ho_readTest : ∀ (t : St) (z : Int × St), fo_readTest t = some z → cM l E yX7_readTest cX7_readTest 1 (some .boolean) (rmS_readEither D9) [.ref (r 303)] (gW E r shH t) (gqI E (gW E r shH) z)) (ho_readOne : ∀ (t : St) (z : Int × St), fo_readOne t = some z → cM l E yX7_readOne cX7_readOne 4 (some .boolean) (rmS_readEither D9) [.ref (r 303)] (gW E r shH t) (gqI E (gW E r shH) z)) {a0 : Int} {t : St} (X : gX p s m meth c cX7_readSingle 2 (some .boolean) yX7_readSingle args E A) (h : o_X7_readSingle N fo_readTest fo_readOne a0 t = some z) : gP p l e (rmS_readEither (D9 + 1)) s m args below meth c E A 2 (MQ below ((gqI E (gW E r shH) z) A) args s mc ms A) (gW E r shH) 0 [(0, .ref (r 303)), (1, iv a0)] [] t := by
  unfold o_X7_readSingle at h
  refine g_iload_n X dX7_readSingle_0 1 rfl ?_
  refine g_if_eq (tgt := 11) X dX7_readSingle_1 (by decide) h (fun h => ?_) (fun h => ?_)
  · refine g_aload_n X dX7_readSingle_11 0 rfl ?_
    refine g_callOI (rest := []) X (fun u9 h9 => ho_readOne t u9 h9) yy_X7_readOne yi_X7_readOne wdM_RX7_256 ⟨_, _, oH_303⟩ rfl rfl rfl (Nat.le_of_ble_eq_true rfl) dX7_readSingle_12 ⟨by show D9 + 2 + 1 ≤ D9 + 1 + 2; omega, by show 8 + (4 + 11) + (60 * D9 + 45) ≤ 60 * (D9 + 1) + 45; omega⟩ ⟨rfl, rfl⟩ h (fun v2 t1 h => ?_)
    exact g_zret X h dX7_readSingle_15
  · refine g_aload_n X dX7_readSingle_4 0 rfl ?_
    refine g_callOI (rest := []) X (fun u9 h9 => ho_readTest t u9 h9) yy_X7_readTest yi_X7_readTest wdM_RX7_253 ⟨_, _, oH_303⟩ rfl rfl rfl (Nat.le_of_ble_eq_true rfl) dX7_readSingle_5 ⟨by show D9 + 2 + 1 ≤ D9 + 1 + 2; omega, by show 8 + (1 + 11) + (60 * D9 + 45) ≤ 60 * (D9 + 1) + 45; omega⟩ ⟨rfl, rfl⟩ h (fun v4 t3 h => ?_)
    refine g_goto (tgt := 15) X dX7_readSingle_8 (by decide) ?_
    exact g_zret X h dX7_readSingle_15
set_option maxHeartbeats 4000000 in
set_option maxRecDepth 100000 in
theorem cpo_X7_readSingle (l : Launch) (E : cE) (r : Nat → Nat) (N : Nat) (D9 : Nat) (fo_readTest : (St → Option (Int × St))) (fo_readOne : (St → Option (Int × St))) (ho_readTest : ∀ (t : St) (z : Int × St), fo_readTest t = some z → cM l E yX7_readTest cX7_readTest 1 (some .boolean) (rmS_readEither D9) [.ref (r 303)] (gW E r shH t) (gqI E (gW E r shH) z)) (ho_readOne : ∀ (t : St) (z : Int × St), fo_readOne t = some z → cM l E yX7_readOne cX7_readOne 4 (some .boolean) (rmS_readEither D9) [.ref (r 303)] (gW E r shH t) (gqI E (gW E r shH) z)) (a0 : Int) (t : St) (z : Int × St) (h : o_X7_readSingle N fo_readTest fo_readOne a0 t = some z) : cM l E yX7_readSingle cX7_readSingle 2 (some .boolean) (rmS_readEither (D9 + 1)) [.ref (r 303), iv a0] (gW E r shH t) (gqI E (gW E r shH) z) := by
  refine g_of (w := gW E r shH) (by decide) (Nat.le_of_ble_eq_true rfl) ?_
  intro p e s m below meth c A X
  exact g_sub (lv' := [(0, .ref (r 303)), (1, iv a0)]) [0, 1] rfl (b_o_X7_readSingle ho_readTest ho_readOne X h)
theorem dX7_readOne_0 : decode cX7_readOne 0 = .ok (.aload_n 0, 1) := by decide +kernel
theorem dX7_readOne_1 : decode cX7_readOne 1 = .ok (.getfield 29, 3) := by decide +kernel
theorem dX7_readOne_4 : decode cX7_readOne 4 = .ok (.istore_n 1, 1) := by decide +kernel
theorem dX7_readOne_5 : decode cX7_readOne 5 = .ok (.iload_n 1, 1) := by decide +kernel
theorem dX7_readOne_6 : decode cX7_readOne 6 = .ok (.bipush 26, 2) := by decide +kernel
theorem dX7_readOne_8 : decode cX7_readOne 8 = .ok (.if_icmp .ne 9, 3) := by decide +kernel
theorem dX7_readOne_11 : decode cX7_readOne 11 = .ok (.aload_n 0, 1) := by decide +kernel
theorem dX7_readOne_12 : decode cX7_readOne 12 = .ok (.iconst 0, 1) := by decide +kernel
theorem dX7_readOne_13 : decode cX7_readOne 13 = .ok (.invokevirtual 259, 3) := by decide +kernel
theorem dX7_readOne_16 : decode cX7_readOne 16 = .ok (.ireturn, 1) := by decide +kernel
theorem dX7_readOne_17 : decode cX7_readOne 17 = .ok (.iload_n 1, 1) := by decide +kernel
theorem dX7_readOne_18 : decode cX7_readOne 18 = .ok (.bipush 42, 2) := by decide +kernel
theorem dX7_readOne_20 : decode cX7_readOne 20 = .ok (.if_icmp .ne 9, 3) := by decide +kernel
theorem dX7_readOne_23 : decode cX7_readOne 23 = .ok (.aload_n 0, 1) := by decide +kernel
theorem dX7_readOne_24 : decode cX7_readOne 24 = .ok (.iconst 0, 1) := by decide +kernel
theorem dX7_readOne_25 : decode cX7_readOne 25 = .ok (.invokevirtual 262, 3) := by decide +kernel
theorem dX7_readOne_28 : decode cX7_readOne 28 = .ok (.ireturn, 1) := by decide +kernel
theorem dX7_readOne_29 : decode cX7_readOne 29 = .ok (.iload_n 1, 1) := by decide +kernel
theorem dX7_readOne_30 : decode cX7_readOne 30 = .ok (.bipush 14, 2) := by decide +kernel
theorem dX7_readOne_32 : decode cX7_readOne 32 = .ok (.if_icmp .lt 9, 3) := by decide +kernel
theorem dX7_readOne_35 : decode cX7_readOne 35 = .ok (.iload_n 1, 1) := by decide +kernel
theorem dX7_readOne_36 : decode cX7_readOne 36 = .ok (.bipush 23, 2) := by decide +kernel
theorem dX7_readOne_38 : decode cX7_readOne 38 = .ok (.if_icmp .le 9, 3) := by decide +kernel
theorem dX7_readOne_41 : decode cX7_readOne 41 = .ok (.aload_n 0, 1) := by decide +kernel
theorem dX7_readOne_42 : decode cX7_readOne 42 = .ok (.iconst 1, 1) := by decide +kernel
theorem dX7_readOne_43 : decode cX7_readOne 43 = .ok (.invokevirtual 48, 3) := by decide +kernel
theorem dX7_readOne_46 : decode cX7_readOne 46 = .ok (.ireturn, 1) := by decide +kernel
theorem dX7_readOne_47 : decode cX7_readOne 47 = .ok (.aload_n 0, 1) := by decide +kernel
theorem dX7_readOne_48 : decode cX7_readOne 48 = .ok (.invokevirtual 127, 3) := by decide +kernel
theorem dX7_readOne_51 : decode cX7_readOne 51 = .ok (.ifCond .ne 5, 3) := by decide +kernel
theorem dX7_readOne_54 : decode cX7_readOne 54 = .ok (.iconst 0, 1) := by decide +kernel
theorem dX7_readOne_55 : decode cX7_readOne 55 = .ok (.ireturn, 1) := by decide +kernel
theorem dX7_readOne_56 : decode cX7_readOne 56 = .ok (.iconst 0, 1) := by decide +kernel
theorem dX7_readOne_57 : decode cX7_readOne 57 = .ok (.istore_n 2, 1) := by decide +kernel
theorem dX7_readOne_58 : decode cX7_readOne 58 = .ok (.iconst 1, 1) := by decide +kernel
theorem dX7_readOne_59 : decode cX7_readOne 59 = .ok (.istore_n 3, 1) := by decide +kernel
theorem dX7_readOne_60 : decode cX7_readOne 60 = .ok (.iload_n 1, 1) := by decide +kernel
theorem dX7_readOne_61 : decode cX7_readOne 61 = .ok (.bipush 19, 2) := by decide +kernel
theorem dX7_readOne_63 : decode cX7_readOne 63 = .ok (.if_icmp .eq 9, 3) := by decide +kernel
theorem dX7_readOne_66 : decode cX7_readOne 66 = .ok (.iload_n 1, 1) := by decide +kernel
theorem dX7_readOne_67 : decode cX7_readOne 67 = .ok (.bipush 20, 2) := by decide +kernel
theorem dX7_readOne_69 : decode cX7_readOne 69 = .ok (.if_icmp .ne 30, 3) := by decide +kernel
theorem dX7_readOne_72 : decode cX7_readOne 72 = .ok (.aload_n 0, 1) := by decide +kernel
theorem dX7_readOne_73 : decode cX7_readOne 73 = .ok (.iconst 0, 1) := by decide +kernel
theorem dX7_readOne_74 : decode cX7_readOne 74 = .ok (.iload_n 1, 1) := by decide +kernel
theorem dX7_readOne_75 : decode cX7_readOne 75 = .ok (.bipush 19, 2) := by decide +kernel
theorem dX7_readOne_77 : decode cX7_readOne 77 = .ok (.if_icmp .ne 8, 3) := by decide +kernel
theorem dX7_readOne_80 : decode cX7_readOne 80 = .ok (.bipush 31, 2) := by decide +kernel
theorem dX7_readOne_82 : decode cX7_readOne 82 = .ok (.goto 5, 3) := by decide +kernel
theorem dX7_readOne_85 : decode cX7_readOne 85 = .ok (.bipush 63, 2) := by decide +kernel
theorem dX7_readOne_87 : decode cX7_readOne 87 = .ok (.invokevirtual 171, 3) := by decide +kernel
theorem dX7_readOne_90 : decode cX7_readOne 90 = .ok (.istore_n 3, 1) := by decide +kernel
theorem dX7_readOne_91 : decode cX7_readOne 91 = .ok (.aload_n 0, 1) := by decide +kernel
theorem dX7_readOne_92 : decode cX7_readOne 92 = .ok (.getfield 130, 3) := by decide +kernel
theorem dX7_readOne_95 : decode cX7_readOne 95 = .ok (.istore_n 2, 1) := by decide +kernel
theorem dX7_readOne_96 : decode cX7_readOne 96 = .ok (.goto 90, 3) := by decide +kernel
theorem dX7_readOne_99 : decode cX7_readOne 99 = .ok (.iload_n 1, 1) := by decide +kernel
theorem dX7_readOne_100 : decode cX7_readOne 100 = .ok (.bipush 21, 2) := by decide +kernel
theorem dX7_readOne_102 : decode cX7_readOne 102 = .ok (.if_icmp .ne 45, 3) := by decide +kernel
theorem dX7_readOne_105 : decode cX7_readOne 105 = .ok (.aload_n 0, 1) := by decide +kernel
theorem dX7_readOne_106 : decode cX7_readOne 106 = .ok (.getfield 29, 3) := by decide +kernel
theorem dX7_readOne_109 : decode cX7_readOne 109 = .ok (.bipush 31, 2) := by decide +kernel
theorem dX7_readOne_111 : decode cX7_readOne 111 = .ok (.isub, 1) := by decide +kernel
theorem dX7_readOne_112 : decode cX7_readOne 112 = .ok (.istore_n 2, 1) := by decide +kernel
theorem dX7_readOne_113 : decode cX7_readOne 113 = .ok (.aload_n 0, 1) := by decide +kernel
theorem dX7_readOne_114 : decode cX7_readOne 114 = .ok (.getfield 29, 3) := by decide +kernel
theorem dX7_readOne_117 : decode cX7_readOne 117 = .ok (.bipush 31, 2) := by decide +kernel
theorem dX7_readOne_119 : decode cX7_readOne 119 = .ok (.if_icmp .lt 19, 3) := by decide +kernel
theorem dX7_readOne_122 : decode cX7_readOne 122 = .ok (.aload_n 0, 1) := by decide +kernel
theorem dX7_readOne_123 : decode cX7_readOne 123 = .ok (.getfield 29, 3) := by decide +kernel
theorem dX7_readOne_126 : decode cX7_readOne 126 = .ok (.bipush 34, 2) := by decide +kernel
theorem dX7_readOne_128 : decode cX7_readOne 128 = .ok (.if_icmp .gt 10, 3) := by decide +kernel
theorem dX7_readOne_131 : decode cX7_readOne 131 = .ok (.aload_n 0, 1) := by decide +kernel
theorem dX7_readOne_132 : decode cX7_readOne 132 = .ok (.invokevirtual 127, 3) := by decide +kernel
theorem dX7_readOne_135 : decode cX7_readOne 135 = .ok (.goto 8, 3) := by decide +kernel
theorem dX7_readOne_138 : decode cX7_readOne 138 = .ok (.aload_n 0, 1) := by decide +kernel
theorem dX7_readOne_139 : decode cX7_readOne 139 = .ok (.iconst 1, 1) := by decide +kernel
theorem dX7_readOne_140 : decode cX7_readOne 140 = .ok (.invokevirtual 48, 3) := by decide +kernel
theorem dX7_readOne_143 : decode cX7_readOne 143 = .ok (.istore_n 3, 1) := by decide +kernel
theorem dX7_readOne_144 : decode cX7_readOne 144 = .ok (.goto 42, 3) := by decide +kernel
theorem dX7_readOne_147 : decode cX7_readOne 147 = .ok (.iload_n 1, 1) := by decide +kernel
theorem dX7_readOne_148 : decode cX7_readOne 148 = .ok (.bipush 22, 2) := by decide +kernel
theorem dX7_readOne_150 : decode cX7_readOne 150 = .ok (.if_icmp .eq 9, 3) := by decide +kernel
theorem dX7_readOne_153 : decode cX7_readOne 153 = .ok (.iload_n 1, 1) := by decide +kernel
theorem dX7_readOne_154 : decode cX7_readOne 154 = .ok (.bipush 23, 2) := by decide +kernel
theorem dX7_readOne_156 : decode cX7_readOne 156 = .ok (.if_icmp .ne 30, 3) := by decide +kernel
theorem dX7_readOne_159 : decode cX7_readOne 159 = .ok (.aload_n 0, 1) := by decide +kernel
theorem dX7_readOne_160 : decode cX7_readOne 160 = .ok (.dup, 1) := by decide +kernel
theorem dX7_readOne_161 : decode cX7_readOne 161 = .ok (.getfield 244, 3) := by decide +kernel
theorem dX7_readOne_164 : decode cX7_readOne 164 = .ok (.iconst 1, 1) := by decide +kernel
theorem dX7_readOne_165 : decode cX7_readOne 165 = .ok (.iadd, 1) := by decide +kernel
theorem dX7_readOne_166 : decode cX7_readOne 166 = .ok (.putfield 244, 3) := by decide +kernel
theorem dX7_readOne_169 : decode cX7_readOne 169 = .ok (.aload_n 0, 1) := by decide +kernel
theorem dX7_readOne_170 : decode cX7_readOne 170 = .ok (.aload_n 0, 1) := by decide +kernel
theorem dX7_readOne_171 : decode cX7_readOne 171 = .ok (.getfield 19, 3) := by decide +kernel
theorem dX7_readOne_174 : decode cX7_readOne 174 = .ok (.getfield 103, 3) := by decide +kernel
theorem dX7_readOne_177 : decode cX7_readOne 177 = .ok (.invokevirtual 164, 3) := by decide +kernel
theorem dX7_readOne_180 : decode cX7_readOne 180 = .ok (.istore_n 3, 1) := by decide +kernel
theorem dX7_readOne_181 : decode cX7_readOne 181 = .ok (.aload_n 0, 1) := by decide +kernel
theorem dX7_readOne_182 : decode cX7_readOne 182 = .ok (.getfield 137, 3) := by decide +kernel
theorem dX7_readOne_185 : decode cX7_readOne 185 = .ok (.istore_n 2, 1) := by decide +kernel
theorem dX7_readOne_186 : decode cX7_readOne 186 = .ok (.iload_n 3, 1) := by decide +kernel
theorem dX7_readOne_187 : decode cX7_readOne 187 = .ok (.ifCond .eq 36, 3) := by decide +kernel
theorem dX7_readOne_190 : decode cX7_readOne 190 = .ok (.iload_n 1, 1) := by decide +kernel
theorem dX7_readOne_191 : decode cX7_readOne 191 = .ok (.bipush 23, 2) := by decide +kernel
theorem dX7_readOne_193 : decode cX7_readOne 193 = .ok (.if_icmp .ne 30, 3) := by decide +kernel
theorem dX7_readOne_196 : decode cX7_readOne 196 = .ok (.aload_n 0, 1) := by decide +kernel
theorem dX7_readOne_197 : decode cX7_readOne 197 = .ok (.iconst 0, 1) := by decide +kernel
theorem dX7_readOne_198 : decode cX7_readOne 198 = .ok (.aload_n 0, 1) := by decide +kernel
theorem dX7_readOne_199 : decode cX7_readOne 199 = .ok (.getfield 19, 3) := by decide +kernel
theorem dX7_readOne_202 : decode cX7_readOne 202 = .ok (.getfield 150, 3) := by decide +kernel
theorem dX7_readOne_205 : decode cX7_readOne 205 = .ok (.iload_n 2, 1) := by decide +kernel
theorem dX7_readOne_206 : decode cX7_readOne 206 = .ok (.iaload, 1) := by decide +kernel
theorem dX7_readOne_207 : decode cX7_readOne 207 = .ok (.iconst 1, 1) := by decide +kernel
theorem dX7_readOne_208 : decode cX7_readOne 208 = .ok (.isub, 1) := by decide +kernel
theorem dX7_readOne_209 : decode cX7_readOne 209 = .ok (.invokevirtual 171, 3) := by decide +kernel
theorem dX7_readOne_212 : decode cX7_readOne 212 = .ok (.istore_n 3, 1) := by decide +kernel
theorem dX7_readOne_213 : decode cX7_readOne 213 = .ok (.iload_n 2, 1) := by decide +kernel
theorem dX7_readOne_214 : decode cX7_readOne 214 = .ok (.bipush 8, 2) := by decide +kernel
theorem dX7_readOne_216 : decode cX7_readOne 216 = .ok (.imul, 1) := by decide +kernel
theorem dX7_readOne_217 : decode cX7_readOne 217 = .ok (.aload_n 0, 1) := by decide +kernel
theorem dX7_readOne_218 : decode cX7_readOne 218 = .ok (.getfield 130, 3) := by decide +kernel
theorem dX7_readOne_221 : decode cX7_readOne 221 = .ok (.iadd, 1) := by decide +kernel
theorem dX7_readOne_222 : decode cX7_readOne 222 = .ok (.istore_n 2, 1) := by decide +kernel
theorem dX7_readOne_223 : decode cX7_readOne 223 = .ok (.aload_n 0, 1) := by decide +kernel
theorem dX7_readOne_224 : decode cX7_readOne 224 = .ok (.getfield 19, 3) := by decide +kernel
theorem dX7_readOne_227 : decode cX7_readOne 227 = .ok (.iconst 0, 1) := by decide +kernel
theorem dX7_readOne_228 : decode cX7_readOne 228 = .ok (.iload_n 1, 1) := by decide +kernel
theorem dX7_readOne_229 : decode cX7_readOne 229 = .ok (.iadd, 1) := by decide +kernel
theorem dX7_readOne_230 : decode cX7_readOne 230 = .ok (.bipush 14, 2) := by decide +kernel
theorem dX7_readOne_232 : decode cX7_readOne 232 = .ok (.isub, 1) := by decide +kernel
theorem dX7_readOne_233 : decode cX7_readOne 233 = .ok (.iload_n 2, 1) := by decide +kernel
theorem dX7_readOne_234 : decode cX7_readOne 234 = .ok (.invokevirtual 199, 3) := by decide +kernel
theorem dX7_readOne_237 : decode cX7_readOne 237 = .ok (.pop, 1) := by decide +kernel
theorem dX7_readOne_238 : decode cX7_readOne 238 = .ok (.iload_n 3, 1) := by decide +kernel
theorem dX7_readOne_239 : decode cX7_readOne 239 = .ok (.ireturn, 1) := by decide +kernel
def o_X7_readOne (N : Nat) (fo_readNot : (Int → St → Option (Int × St))) (fo_readGroup : (Int → St → Option (Int × St))) (t : St) : Option (Int × St) :=
    lt1 (t.1 303 3) fun v1 =>
    cmpI v1 26 (if v1 = 26 then (bdI (fo_readNot 0 t) fun v52 t51 =>
    boI v52 (some (v52, t51)))
    else (cmpI v1 42 (if v1 = 42 then (bdI (fo_readGroup 0 t) fun v50 t49 =>
    boI v50 (some (v50, t49)))
    else (jn1 (fun (t2 : St) => bdI (f_X7_wrong N 1 t2) fun v5 t4 =>
    boI v5 (some (v5, t4))) fun J3 =>
    cmpI v1 14 (if v1 < 14 then (J3 t)
    else (cmpI v1 23 (if 23 < v1 then (J3 t)
    else (bdI (f_X7_pass N t) fun v7 t6 =>
    cmpI v7 0 (if v7 = 0 then (boI 0 (some (0, t6)))
    else (jn1 (fun (j8 : Int) (j9 : Int) (t10 : St) => jn1 (fun (j12 : Int) (j13 : Int) (t14 : St) => bdI (f_X0_put N ((0 + v1) - 14) j12 t14) fun v17 t16 =>
    boI j13 (some (j13, t16))) fun J15 =>
    cmpI j9 0 (if j9 = 0 then (J15 j8 j9 t10)
    else (cmpI v1 23 (if v1 = 23 then (ixI j8 40 (lt1 (t10.1 350 j8.toNat) fun v18 =>
    bdI (f_X7_takeNumber N 0 (v18 - 1) t10) fun v20 t19 =>
    lt1 (t19.1 303 8) fun v21 =>
    J15 ((j8 * 8) + v21) v20 t19))
    else (J15 j8 j9 t10))))) fun J11 =>
    jn1 (fun (t22 : St) => jn1 (fun (j24 : Int) (t25 : St) => bdI (f_X7_takeNumber N 0 j24 t25) fun v28 t27 =>
    lt1 (t27.1 303 8) fun v29 =>
    J11 v29 v28 t27) fun J26 =>
    cmpI v1 19 (if v1 = 19 then (J26 31 t22)
    else (J26 63 t22))) fun J23 =>
    cmpI v1 19 (if v1 = 19 then (J23 t6)
    else (cmpI v1 20 (if v1 = 20 then (J23 t6)
    else (cmpI v1 21 (if v1 = 21 then (lt1 (t6.1 303 3) fun v37 =>
    lt1 (t6.1 303 3) fun v38 =>
    jn1 (fun (j39 : Int) (t40 : St) => J11 (v37 - 31) j39 t40) fun J41 =>
    jn1 (fun (t42 : St) => bdI (f_X7_wrong N 1 t42) fun v45 t44 =>
    J41 v45 t44) fun J43 =>
    cmpI v38 31 (if v38 < 31 then (J43 t6)
    else (lt1 (t6.1 303 3) fun v46 =>
    cmpI v46 34 (if 34 < v46 then (J43 t6)
    else (bdI (f_X7_pass N t6) fun v48 t47 =>
    J41 v48 t47)))))
    else (jn1 (fun (t30 : St) => lt1 (t30.1 303 10) fun v32 =>
    lt1 (pI t30 303 10 (v32 + 1)) fun t33 =>
    bdI (f_X7_takeKnown N 0 t33) fun v35 t34 =>
    lt1 (t34.1 303 9) fun v36 =>
    J11 v36 v35 t34) fun J31 =>
    cmpI v1 22 (if v1 = 22 then (J31 t6)
    else (cmpI v1 23 (if v1 = 23 then (J31 t6)
    else (J11 0 1 t6))))))))))))))))))))
set_option maxHeartbeats 4000000 in
set_option maxRecDepth 100000 in
theorem b_o_X7_readOne {p : Program} {l : Launch} {e : Env} {s : State} {m : MethodId} {args : Array Value} {below : List Frame} {meth : Method} {c : Code} {E : cE} {A : Nat → Prop} {r : Nat → Nat} {mc ms : Nat} {z : Int × St} {N : Nat} {D9 : Nat} {fo_readNot : (Int → St → Option (Int × St))} {fo_readGroup : (Int → St → Option (Int × St))} (ho_readNot : ∀ (a0 : Int) (t : St) (z : Int × St), fo_readNot a0 t = some z → cM l E yX7_readNot cX7_readNot 2 (some .boolean) (rmS_readEither D9) [.ref (r 303), iv a0] (gW E r shH t) (gqI E (gW E r shH) z)) (ho_readGroup : ∀ (a0 : Int) (t : St) (z : Int × St), fo_readGroup a0 t = some z → cM l E yX7_readGroup cX7_readGroup 2 (some .boolean) (rmS_readEither D9) [.ref (r 303), iv a0] (gW E r shH t) (gqI E (gW E r shH) z)) {t : St} (X : gX p s m meth c cX7_readOne 4 (some .boolean) yX7_readOne args E A) (h : o_X7_readOne N fo_readNot fo_readGroup t = some z) : gP p l e (rmS_readEither (D9 + 1)) s m args below meth c E A 4 (MQ below ((gqI E (gW E r shH) z) A) args s mc ms A) (gW E r shH) 0 [(0, .ref (r 303))] [] t := by
  unfold o_X7_readOne at h
  refine g_aload_n X dX7_readOne_0 0 rfl ?_
  refine g_getI X fH_X7_29_303 rfl dX7_readOne_1 h (fun v1 h => ?_)
  refine g_istore_n (lv' := [(1, iv v1), (0, .ref (r 303))]) X dX7_readOne_4 rfl (by decide) rfl ?_
  refine g_iload_n X dX7_readOne_5 0 rfl ?_
  refine g_bipush X dX7_readOne_6 (by decide) ?_
  refine g_icmp_ne (tgt := 17) X dX7_readOne_8 (by decide) h (fun h => ?_) (fun h => ?_)
  · refine g_iload_n X dX7_readOne_17 0 rfl ?_
    refine g_bipush X dX7_readOne_18 (by decide) ?_
    refine g_icmp_ne (tgt := 29) X dX7_readOne_20 (by decide) h (fun h => ?_) (fun h => ?_)
    · refine g_iload_n X dX7_readOne_29 0 rfl ?_
      refine g_bipush X dX7_readOne_30 (by decide) ?_
      refine g_join (J := fun jj => ∀ (t2 : St), jj  t2 = some z → gP p l e (rmS_readEither (D9 + 1)) s m args below meth c E A 4 (MQ below ((gqI E (gW E r shH) z) A) args s mc ms A) (gW E r shH) 41 [(0, .ref (r 303))] [] t2) h (fun  t2 h => ?_) (fun J3 hJ3 h => ?_)
      · refine g_aload_n X dX7_readOne_41 0 rfl ?_
        refine g_iconst X dX7_readOne_42 ?_
        refine g_callOI (rest := []) X (fun u9 h9 => cp_X7_wrong l E r N 1 t2 u9 h9) yy_X7_wrong yi_X7_wrong wdM_RX7_48 ⟨_, _, oH_303⟩ rfl rfl rfl (Nat.le_of_ble_eq_true rfl) dX7_readOne_43 ⟨by show 0 + 1 ≤ D9 + 1 + 2; omega, by show 8 + (2 + 11) + 0 ≤ 60 * (D9 + 1) + 45; omega⟩ ⟨rfl, rfl⟩ h (fun v5 t4 h => ?_)
        exact g_zret X h dX7_readOne_46
      refine g_icmp_lt (tgt := 41) X dX7_readOne_32 (by decide) h (fun h => ?_) (fun h => ?_)
      · exact g_sub (lv' := [(0, .ref (r 303))]) [1] rfl (hJ3 t h)
      · refine g_iload_n X dX7_readOne_35 0 rfl ?_
        refine g_bipush X dX7_readOne_36 (by decide) ?_
        refine g_icmp_le (tgt := 47) X dX7_readOne_38 (by decide) h (fun h => ?_) (fun h => ?_)
        · refine g_aload_n X dX7_readOne_47 1 rfl ?_
          refine g_callOI (rest := []) X (fun u9 h9 => cp_X7_pass l E r N t u9 h9) yy_X7_pass yi_X7_pass wdM_RX7_127 ⟨_, _, oH_303⟩ rfl rfl rfl (Nat.le_of_ble_eq_true rfl) dX7_readOne_48 ⟨by show 0 + 1 ≤ D9 + 1 + 2; omega, by show 8 + (2 + 11) + 0 ≤ 60 * (D9 + 1) + 45; omega⟩ ⟨rfl, rfl⟩ h (fun v7 t6 h => ?_)
          refine g_if_ne (tgt := 56) X dX7_readOne_51 (by decide) h (fun h => ?_) (fun h => ?_)
          · refine g_iconst X dX7_readOne_56 ?_
            refine g_istore_n (lv' := [(2, iv 0), (1, iv v1), (0, .ref (r 303))]) X dX7_readOne_57 rfl (by decide) rfl ?_
            refine g_iconst X dX7_readOne_58 ?_
            refine g_istore_n (lv' := [(3, iv 1), (2, iv 0), (1, iv v1), (0, .ref (r 303))]) X dX7_readOne_59 rfl (by decide) rfl ?_
            refine g_iload_n X dX7_readOne_60 2 rfl ?_
            refine g_bipush X dX7_readOne_61 (by decide) ?_
            refine g_join (J := fun jj => ∀ (j8 : Int) (j9 : Int) (t10 : St), jj j8 j9 t10 = some z → gP p l e (rmS_readEither (D9 + 1)) s m args below meth c E A 4 (MQ below ((gqI E (gW E r shH) z) A) args s mc ms A) (gW E r shH) 186 [(0, .ref (r 303)), (1, iv v1), (2, iv j8), (3, iv j9)] [] t10) h (fun j8 j9 t10 h => ?_) (fun J11 hJ11 h => ?_)
            · refine g_iload_n X dX7_readOne_186 3 rfl ?_
              refine g_join (J := fun jj => ∀ (j12 : Int) (j13 : Int) (t14 : St), jj j12 j13 t14 = some z → gP p l e (rmS_readEither (D9 + 1)) s m args below meth c E A 4 (MQ below ((gqI E (gW E r shH) z) A) args s mc ms A) (gW E r shH) 223 [(0, .ref (r 303)), (1, iv v1), (2, iv j12), (3, iv j13)] [] t14) h (fun j12 j13 t14 h => ?_) (fun J15 hJ15 h => ?_)
              · refine g_aload_n X dX7_readOne_223 0 rfl ?_
                refine g_getR X fH_X7_19_303 rfl dX7_readOne_224 ?_
                refine g_iconst X dX7_readOne_227 ?_
                refine g_iload_n X dX7_readOne_228 1 rfl ?_
                refine g_iadd X dX7_readOne_229 ?_
                refine g_bipush X dX7_readOne_230 (by decide) ?_
                refine g_isub X dX7_readOne_232 ?_
                refine g_iload_n X dX7_readOne_233 2 rfl ?_
                refine g_callOI (rest := []) X (fun u9 h9 => cp_X0_put l E r N ((0 + v1) - 14) j12 t14 u9 h9) yy_X0_put yi_X0_put wdM_RX7_199 ⟨_, _, oH_302⟩ rfl rfl rfl (Nat.le_of_ble_eq_true rfl) dX7_readOne_234 ⟨by show 0 + 1 ≤ D9 + 1 + 2; omega, by show 8 + (4 + 11) + 0 ≤ 60 * (D9 + 1) + 45; omega⟩ ⟨rfl, rfl⟩ h (fun v17 t16 h => ?_)
                refine g_pop X rfl dX7_readOne_237 ?_
                refine g_iload_n X dX7_readOne_238 3 rfl ?_
                exact g_zret X h dX7_readOne_239
              refine g_if_eq (tgt := 223) X dX7_readOne_187 (by decide) h (fun h => ?_) (fun h => ?_)
              · exact g_sub (lv' := [(0, .ref (r 303)), (1, iv v1), (2, iv j8), (3, iv j9)]) [0, 1, 2, 3] rfl (hJ15 j8 j9 t10 h)
              · refine g_iload_n X dX7_readOne_190 1 rfl ?_
                refine g_bipush X dX7_readOne_191 (by decide) ?_
                refine g_icmp_ne (tgt := 223) X dX7_readOne_193 (by decide) h (fun h => ?_) (fun h => ?_)
                · exact g_sub (lv' := [(0, .ref (r 303)), (1, iv v1), (2, iv j8), (3, iv j9)]) [0, 1, 2, 3] rfl (hJ15 j8 j9 t10 h)
                · refine g_aload_n X dX7_readOne_196 0 rfl ?_
                  refine g_iconst X dX7_readOne_197 ?_
                  refine g_aload_n X dX7_readOne_198 0 rfl ?_
                  refine g_getR X fH_X7_19_303 rfl dX7_readOne_199 ?_
                  refine g_getR X fH_X7_150_302 rfl dX7_readOne_202 ?_
                  refine g_iload_n X dX7_readOne_205 2 rfl ?_
                  refine g_iald X aH_350 dX7_readOne_206 h (fun v18 h => ?_)
                  refine g_iconst X dX7_readOne_207 ?_
                  refine g_isub X dX7_readOne_208 ?_
                  refine g_callOI (rest := []) X (fun u9 h9 => cp_X7_takeNumber l E r N 0 (v18 - 1) t10 u9 h9) yy_X7_takeNumber yi_X7_takeNumber wdM_RX7_171 ⟨_, _, oH_303⟩ rfl rfl rfl (Nat.le_of_ble_eq_true rfl) dX7_readOne_209 ⟨by show 1 + 1 ≤ D9 + 1 + 2; omega, by show 8 + (4 + 11) + 22 ≤ 60 * (D9 + 1) + 45; omega⟩ ⟨rfl, rfl⟩ h (fun v20 t19 h => ?_)
                  refine g_istore_n (lv' := [(3, iv v20), (0, .ref (r 303)), (1, iv v1), (2, iv j8)]) X dX7_readOne_212 rfl (by decide) rfl ?_
                  refine g_iload_n X dX7_readOne_213 3 rfl ?_
                  refine g_bipush X dX7_readOne_214 (by decide) ?_
                  refine g_imul X dX7_readOne_216 ?_
                  refine g_aload_n X dX7_readOne_217 1 rfl ?_
                  refine g_getI X fH_X7_130_303 rfl dX7_readOne_218 h (fun v21 h => ?_)
                  refine g_iadd X dX7_readOne_221 ?_
                  refine g_istore_n (lv' := [(2, iv ((j8 * 8) + v21)), (3, iv v20), (0, .ref (r 303)), (1, iv v1)]) X dX7_readOne_222 rfl (by decide) rfl ?_
                  exact g_sub (lv' := [(0, .ref (r 303)), (1, iv v1), (2, iv ((j8 * 8) + v21)), (3, iv v20)]) [2, 3, 0, 1] rfl (hJ15 ((j8 * 8) + v21) v20 t19 h)
            refine g_join (J := fun jj => ∀ (t22 : St), jj  t22 = some z → gP p l e (rmS_readEither (D9 + 1)) s m args below meth c E A 4 (MQ below ((gqI E (gW E r shH) z) A) args s mc ms A) (gW E r shH) 72 [(0, .ref (r 303)), (1, iv v1)] [] t22) h (fun  t22 h => ?_) (fun J23 hJ23 h => ?_)
            · refine g_aload_n X dX7_readOne_72 0 rfl ?_
              refine g_iconst X dX7_readOne_73 ?_
              refine g_iload_n X dX7_readOne_74 1 rfl ?_
              refine g_bipush X dX7_readOne_75 (by decide) ?_
              refine g_join (J := fun jj => ∀ (j24 : Int) (t25 : St), jj j24 t25 = some z → gP p l e (rmS_readEither (D9 + 1)) s m args below meth c E A 4 (MQ below ((gqI E (gW E r shH) z) A) args s mc ms A) (gW E r shH) 87 [(0, .ref (r 303)), (1, iv v1)] [iv j24, iv 0, .ref (r 303)] t25) h (fun j24 t25 h => ?_) (fun J26 hJ26 h => ?_)
              · refine g_callOI (rest := []) X (fun u9 h9 => cp_X7_takeNumber l E r N 0 j24 t25 u9 h9) yy_X7_takeNumber yi_X7_takeNumber wdM_RX7_171 ⟨_, _, oH_303⟩ rfl rfl rfl (Nat.le_of_ble_eq_true rfl) dX7_readOne_87 ⟨by show 1 + 1 ≤ D9 + 1 + 2; omega, by show 8 + (4 + 11) + 22 ≤ 60 * (D9 + 1) + 45; omega⟩ ⟨rfl, rfl⟩ h (fun v28 t27 h => ?_)
                refine g_istore_n (lv' := [(3, iv v28), (0, .ref (r 303)), (1, iv v1)]) X dX7_readOne_90 rfl (by decide) rfl ?_
                refine g_aload_n X dX7_readOne_91 1 rfl ?_
                refine g_getI X fH_X7_130_303 rfl dX7_readOne_92 h (fun v29 h => ?_)
                refine g_istore_n (lv' := [(2, iv v29), (3, iv v28), (0, .ref (r 303)), (1, iv v1)]) X dX7_readOne_95 rfl (by decide) rfl ?_
                refine g_goto (tgt := 186) X dX7_readOne_96 (by decide) ?_
                exact g_sub (lv' := [(0, .ref (r 303)), (1, iv v1), (2, iv v29), (3, iv v28)]) [2, 3, 0, 1] rfl (hJ11 v29 v28 t27 h)
              refine g_icmp_ne (tgt := 85) X dX7_readOne_77 (by decide) h (fun h => ?_) (fun h => ?_)
              · refine g_bipush X dX7_readOne_85 (by decide) ?_
                exact g_sub (lv' := [(0, .ref (r 303)), (1, iv v1)]) [0, 1] rfl (hJ26 63 t22 h)
              · refine g_bipush X dX7_readOne_80 (by decide) ?_
                refine g_goto (tgt := 87) X dX7_readOne_82 (by decide) ?_
                exact g_sub (lv' := [(0, .ref (r 303)), (1, iv v1)]) [0, 1] rfl (hJ26 31 t22 h)
            refine g_icmp_eq (tgt := 72) X dX7_readOne_63 (by decide) h (fun h => ?_) (fun h => ?_)
            · exact g_sub (lv' := [(0, .ref (r 303)), (1, iv v1)]) [3, 2] rfl (hJ23 t6 h)
            · refine g_iload_n X dX7_readOne_66 2 rfl ?_
              refine g_bipush X dX7_readOne_67 (by decide) ?_
              refine g_icmp_ne (tgt := 99) X dX7_readOne_69 (by decide) h (fun h => ?_) (fun h => ?_)
              · refine g_iload_n X dX7_readOne_99 2 rfl ?_
                refine g_bipush X dX7_readOne_100 (by decide) ?_
                refine g_icmp_ne (tgt := 147) X dX7_readOne_102 (by decide) h (fun h => ?_) (fun h => ?_)
                · refine g_iload_n X dX7_readOne_147 2 rfl ?_
                  refine g_bipush X dX7_readOne_148 (by decide) ?_
                  refine g_join (J := fun jj => ∀ (t30 : St), jj  t30 = some z → gP p l e (rmS_readEither (D9 + 1)) s m args below meth c E A 4 (MQ below ((gqI E (gW E r shH) z) A) args s mc ms A) (gW E r shH) 159 [(0, .ref (r 303)), (1, iv v1)] [] t30) h (fun  t30 h => ?_) (fun J31 hJ31 h => ?_)
                  · refine g_aload_n X dX7_readOne_159 0 rfl ?_
                    refine g_dup X rfl dX7_readOne_160 ?_
                    refine g_getI X fH_X7_244_303 rfl dX7_readOne_161 h (fun v32 h => ?_)
                    refine g_iconst X dX7_readOne_164 ?_
                    refine g_iadd X dX7_readOne_165 ?_
                    refine g_putI X fH_X7_244_303w rfl dX7_readOne_166 h (fun t33 h => ?_)
                    refine g_aload_n X dX7_readOne_169 0 rfl ?_
                    refine g_aload_n X dX7_readOne_170 0 rfl ?_
                    refine g_getR X fH_X7_19_303 rfl dX7_readOne_171 ?_
                    refine g_getR X fH_X7_103_302 rfl dX7_readOne_174 ?_
                    refine g_callOI (rest := []) X (fun u9 h9 => cp_X7_takeKnown l E r N 0 (by decide) t33 u9 h9) yy_X7_takeKnown yi_X7_takeKnown wdM_RX7_164 ⟨_, _, oH_303⟩ rfl rfl rfl (Nat.le_of_ble_eq_true rfl) dX7_readOne_177 ⟨by show 1 + 1 ≤ D9 + 1 + 2; omega, by show 8 + (2 + 11) + 23 ≤ 60 * (D9 + 1) + 45; omega⟩ ⟨rfl, rfl⟩ h (fun v35 t34 h => ?_)
                    refine g_istore_n (lv' := [(3, iv v35), (0, .ref (r 303)), (1, iv v1)]) X dX7_readOne_180 rfl (by decide) rfl ?_
                    refine g_aload_n X dX7_readOne_181 1 rfl ?_
                    refine g_getI X fH_X7_137_303 rfl dX7_readOne_182 h (fun v36 h => ?_)
                    refine g_istore_n (lv' := [(2, iv v36), (3, iv v35), (0, .ref (r 303)), (1, iv v1)]) X dX7_readOne_185 rfl (by decide) rfl ?_
                    exact g_sub (lv' := [(0, .ref (r 303)), (1, iv v1), (2, iv v36), (3, iv v35)]) [2, 3, 0, 1] rfl (hJ11 v36 v35 t34 h)
                  refine g_icmp_eq (tgt := 159) X dX7_readOne_150 (by decide) h (fun h => ?_) (fun h => ?_)
                  · exact g_sub (lv' := [(0, .ref (r 303)), (1, iv v1)]) [3, 2] rfl (hJ31 t6 h)
                  · refine g_iload_n X dX7_readOne_153 2 rfl ?_
                    refine g_bipush X dX7_readOne_154 (by decide) ?_
                    refine g_icmp_ne (tgt := 186) X dX7_readOne_156 (by decide) h (fun h => ?_) (fun h => ?_)
                    · exact g_sub (lv' := [(0, .ref (r 303)), (1, iv v1), (2, iv 0), (3, iv 1)]) [3, 2, 1, 0] rfl (hJ11 0 1 t6 h)
                    · exact g_sub (lv' := [(0, .ref (r 303)), (1, iv v1)]) [3, 2] rfl (hJ31 t6 h)
                · refine g_aload_n X dX7_readOne_105 3 rfl ?_
                  refine g_getI X fH_X7_29_303 rfl dX7_readOne_106 h (fun v37 h => ?_)
                  refine g_bipush X dX7_readOne_109 (by decide) ?_
                  refine g_isub X dX7_readOne_111 ?_
                  refine g_istore_n (lv' := [(2, iv (v37 - 31)), (3, iv 1), (1, iv v1), (0, .ref (r 303))]) X dX7_readOne_112 rfl (by decide) rfl ?_
                  refine g_aload_n X dX7_readOne_113 3 rfl ?_
                  refine g_getI X fH_X7_29_303 rfl dX7_readOne_114 h (fun v38 h => ?_)
                  refine g_bipush X dX7_readOne_117 (by decide) ?_
                  refine g_join (J := fun jj => ∀ (j39 : Int) (t40 : St), jj j39 t40 = some z → gP p l e (rmS_readEither (D9 + 1)) s m args below meth c E A 4 (MQ below ((gqI E (gW E r shH) z) A) args s mc ms A) (gW E r shH) 143 [(0, .ref (r 303)), (1, iv v1), (2, iv (v37 - 31))] [iv j39] t40) h (fun j39 t40 h => ?_) (fun J41 hJ41 h => ?_)
                  · refine g_istore_n (lv' := [(3, iv j39), (0, .ref (r 303)), (1, iv v1), (2, iv (v37 - 31))]) X dX7_readOne_143 rfl (by decide) rfl ?_
                    refine g_goto (tgt := 186) X dX7_readOne_144 (by decide) ?_
                    exact g_sub (lv' := [(0, .ref (r 303)), (1, iv v1), (2, iv (v37 - 31)), (3, iv j39)]) [1, 2, 3, 0] rfl (hJ11 (v37 - 31) j39 t40 h)
                  refine g_join (J := fun jj => ∀ (t42 : St), jj  t42 = some z → gP p l e (rmS_readEither (D9 + 1)) s m args below meth c E A 4 (MQ below ((gqI E (gW E r shH) z) A) args s mc ms A) (gW E r shH) 138 [(0, .ref (r 303)), (1, iv v1), (2, iv (v37 - 31))] [] t42) h (fun  t42 h => ?_) (fun J43 hJ43 h => ?_)
                  · refine g_aload_n X dX7_readOne_138 0 rfl ?_
                    refine g_iconst X dX7_readOne_139 ?_
                    refine g_callOI (rest := []) X (fun u9 h9 => cp_X7_wrong l E r N 1 t42 u9 h9) yy_X7_wrong yi_X7_wrong wdM_RX7_48 ⟨_, _, oH_303⟩ rfl rfl rfl (Nat.le_of_ble_eq_true rfl) dX7_readOne_140 ⟨by show 0 + 1 ≤ D9 + 1 + 2; omega, by show 8 + (2 + 11) + 0 ≤ 60 * (D9 + 1) + 45; omega⟩ ⟨rfl, rfl⟩ h (fun v45 t44 h => ?_)
                    exact g_sub (lv' := [(0, .ref (r 303)), (1, iv v1), (2, iv (v37 - 31))]) [0, 1, 2] rfl (hJ41 v45 t44 h)
                  refine g_icmp_lt (tgt := 138) X dX7_readOne_119 (by decide) h (fun h => ?_) (fun h => ?_)
                  · exact g_sub (lv' := [(0, .ref (r 303)), (1, iv v1), (2, iv (v37 - 31))]) [3, 2, 0] rfl (hJ43 t6 h)
                  · refine g_aload_n X dX7_readOne_122 3 rfl ?_
                    refine g_getI X fH_X7_29_303 rfl dX7_readOne_123 h (fun v46 h => ?_)
                    refine g_bipush X dX7_readOne_126 (by decide) ?_
                    refine g_icmp_gt (tgt := 138) X dX7_readOne_128 (by decide) h (fun h => ?_) (fun h => ?_)
                    · exact g_sub (lv' := [(0, .ref (r 303)), (1, iv v1), (2, iv (v37 - 31))]) [3, 2, 0] rfl (hJ43 t6 h)
                    · refine g_aload_n X dX7_readOne_131 3 rfl ?_
                      refine g_callOI (rest := []) X (fun u9 h9 => cp_X7_pass l E r N t6 u9 h9) yy_X7_pass yi_X7_pass wdM_RX7_127 ⟨_, _, oH_303⟩ rfl rfl rfl (Nat.le_of_ble_eq_true rfl) dX7_readOne_132 ⟨by show 0 + 1 ≤ D9 + 1 + 2; omega, by show 8 + (2 + 11) + 0 ≤ 60 * (D9 + 1) + 45; omega⟩ ⟨rfl, rfl⟩ h (fun v48 t47 h => ?_)
                      refine g_goto (tgt := 143) X dX7_readOne_135 (by decide) ?_
                      exact g_sub (lv' := [(0, .ref (r 303)), (1, iv v1), (2, iv (v37 - 31))]) [3, 2, 0] rfl (hJ41 v48 t47 h)
              · exact g_sub (lv' := [(0, .ref (r 303)), (1, iv v1)]) [3, 2] rfl (hJ23 t6 h)
          · refine g_iconst X dX7_readOne_54 ?_
            exact g_zret X h dX7_readOne_55
        · exact g_sub (lv' := [(0, .ref (r 303))]) [1] rfl (hJ3 t h)
    · refine g_aload_n X dX7_readOne_23 1 rfl ?_
      refine g_iconst X dX7_readOne_24 ?_
      refine g_callOI (rest := []) X (fun u9 h9 => ho_readGroup 0 t u9 h9) yy_X7_readGroup yi_X7_readGroup wdM_RX7_262 ⟨_, _, oH_303⟩ rfl rfl rfl (Nat.le_of_ble_eq_true rfl) dX7_readOne_25 ⟨by show D9 + 2 + 1 ≤ D9 + 1 + 2; omega, by show 8 + (2 + 11) + (60 * D9 + 45) ≤ 60 * (D9 + 1) + 45; omega⟩ ⟨rfl, rfl⟩ h (fun v50 t49 h => ?_)
      exact g_zret X h dX7_readOne_28
  · refine g_aload_n X dX7_readOne_11 1 rfl ?_
    refine g_iconst X dX7_readOne_12 ?_
    refine g_callOI (rest := []) X (fun u9 h9 => ho_readNot 0 t u9 h9) yy_X7_readNot yi_X7_readNot wdM_RX7_259 ⟨_, _, oH_303⟩ rfl rfl rfl (Nat.le_of_ble_eq_true rfl) dX7_readOne_13 ⟨by show D9 + 2 + 1 ≤ D9 + 1 + 2; omega, by show 8 + (2 + 11) + (60 * D9 + 45) ≤ 60 * (D9 + 1) + 45; omega⟩ ⟨rfl, rfl⟩ h (fun v52 t51 h => ?_)
    exact g_zret X h dX7_readOne_16
set_option maxHeartbeats 4000000 in
set_option maxRecDepth 100000 in
theorem cpo_X7_readOne (l : Launch) (E : cE) (r : Nat → Nat) (N : Nat) (D9 : Nat) (fo_readNot : (Int → St → Option (Int × St))) (fo_readGroup : (Int → St → Option (Int × St))) (ho_readNot : ∀ (a0 : Int) (t : St) (z : Int × St), fo_readNot a0 t = some z → cM l E yX7_readNot cX7_readNot 2 (some .boolean) (rmS_readEither D9) [.ref (r 303), iv a0] (gW E r shH t) (gqI E (gW E r shH) z)) (ho_readGroup : ∀ (a0 : Int) (t : St) (z : Int × St), fo_readGroup a0 t = some z → cM l E yX7_readGroup cX7_readGroup 2 (some .boolean) (rmS_readEither D9) [.ref (r 303), iv a0] (gW E r shH t) (gqI E (gW E r shH) z)) (t : St) (z : Int × St) (h : o_X7_readOne N fo_readNot fo_readGroup t = some z) : cM l E yX7_readOne cX7_readOne 4 (some .boolean) (rmS_readEither (D9 + 1)) [.ref (r 303)] (gW E r shH t) (gqI E (gW E r shH) z) := by
  refine g_of (w := gW E r shH) (by decide) (Nat.le_of_ble_eq_true rfl) ?_
  intro p e s m below meth c A X
  exact g_sub (lv' := [(0, .ref (r 303))]) [0] rfl (b_o_X7_readOne ho_readNot ho_readGroup X h)
theorem dX7_readTest_0 : decode cX7_readTest 0 = .ok (.aload_n 0, 1) := by decide +kernel
theorem dX7_readTest_1 : decode cX7_readTest 1 = .ok (.getfield 29, 3) := by decide +kernel
theorem dX7_readTest_4 : decode cX7_readTest 4 = .ok (.lookupswitch 137 #[(26, 52), (27, 64), (28, 80), (30, 132), (42, 58)], 52) := by decide +kernel
theorem dX7_readTest_56 : decode cX7_readTest 56 = .ok (.aload_n 0, 1) := by decide +kernel
theorem dX7_readTest_57 : decode cX7_readTest 57 = .ok (.iconst 1, 1) := by decide +kernel
theorem dX7_readTest_58 : decode cX7_readTest 58 = .ok (.invokevirtual 259, 3) := by decide +kernel
theorem dX7_readTest_61 : decode cX7_readTest 61 = .ok (.ireturn, 1) := by decide +kernel
theorem dX7_readTest_62 : decode cX7_readTest 62 = .ok (.aload_n 0, 1) := by decide +kernel
theorem dX7_readTest_63 : decode cX7_readTest 63 = .ok (.iconst 1, 1) := by decide +kernel
theorem dX7_readTest_64 : decode cX7_readTest 64 = .ok (.invokevirtual 262, 3) := by decide +kernel
theorem dX7_readTest_67 : decode cX7_readTest 67 = .ok (.ireturn, 1) := by decide +kernel
theorem dX7_readTest_68 : decode cX7_readTest 68 = .ok (.aload_n 0, 1) := by decide +kernel
theorem dX7_readTest_69 : decode cX7_readTest 69 = .ok (.getfield 19, 3) := by decide +kernel
theorem dX7_readTest_72 : decode cX7_readTest 72 = .ok (.bipush 13, 2) := by decide +kernel
theorem dX7_readTest_74 : decode cX7_readTest 74 = .ok (.iconst 0, 1) := by decide +kernel
theorem dX7_readTest_75 : decode cX7_readTest 75 = .ok (.invokevirtual 199, 3) := by decide +kernel
theorem dX7_readTest_78 : decode cX7_readTest 78 = .ok (.pop, 1) := by decide +kernel
theorem dX7_readTest_79 : decode cX7_readTest 79 = .ok (.aload_n 0, 1) := by decide +kernel
theorem dX7_readTest_80 : decode cX7_readTest 80 = .ok (.invokevirtual 127, 3) := by decide +kernel
theorem dX7_readTest_83 : decode cX7_readTest 83 = .ok (.ireturn, 1) := by decide +kernel
theorem dX7_readTest_84 : decode cX7_readTest 84 = .ok (.aload_n 0, 1) := by decide +kernel
theorem dX7_readTest_85 : decode cX7_readTest 85 = .ok (.invokevirtual 127, 3) := by decide +kernel
theorem dX7_readTest_88 : decode cX7_readTest 88 = .ok (.ifCond .eq 30, 3) := by decide +kernel
theorem dX7_readTest_91 : decode cX7_readTest 91 = .ok (.aload_n 0, 1) := by decide +kernel
theorem dX7_readTest_92 : decode cX7_readTest 92 = .ok (.iconst 0, 1) := by decide +kernel
theorem dX7_readTest_93 : decode cX7_readTest 93 = .ok (.invokevirtual 240, 3) := by decide +kernel
theorem dX7_readTest_96 : decode cX7_readTest 96 = .ok (.ifCond .eq 22, 3) := by decide +kernel
theorem dX7_readTest_99 : decode cX7_readTest 99 = .ok (.aload_n 0, 1) := by decide +kernel
theorem dX7_readTest_100 : decode cX7_readTest 100 = .ok (.bipush 29, 2) := by decide +kernel
theorem dX7_readTest_102 : decode cX7_readTest 102 = .ok (.invokevirtual 58, 3) := by decide +kernel
theorem dX7_readTest_105 : decode cX7_readTest 105 = .ok (.ifCond .eq 13, 3) := by decide +kernel
theorem dX7_readTest_108 : decode cX7_readTest 108 = .ok (.aload_n 0, 1) := by decide +kernel
theorem dX7_readTest_109 : decode cX7_readTest 109 = .ok (.iconst 0, 1) := by decide +kernel
theorem dX7_readTest_110 : decode cX7_readTest 110 = .ok (.bipush 64, 2) := by decide +kernel
theorem dX7_readTest_112 : decode cX7_readTest 112 = .ok (.invokevirtual 171, 3) := by decide +kernel
theorem dX7_readTest_115 : decode cX7_readTest 115 = .ok (.ifCond .ne 5, 3) := by decide +kernel
theorem dX7_readTest_118 : decode cX7_readTest 118 = .ok (.iconst 0, 1) := by decide +kernel
theorem dX7_readTest_119 : decode cX7_readTest 119 = .ok (.ireturn, 1) := by decide +kernel
theorem dX7_readTest_120 : decode cX7_readTest 120 = .ok (.aload_n 0, 1) := by decide +kernel
theorem dX7_readTest_121 : decode cX7_readTest 121 = .ok (.getfield 19, 3) := by decide +kernel
theorem dX7_readTest_124 : decode cX7_readTest 124 = .ok (.bipush 14, 2) := by decide +kernel
theorem dX7_readTest_126 : decode cX7_readTest 126 = .ok (.aload_n 0, 1) := by decide +kernel
theorem dX7_readTest_127 : decode cX7_readTest 127 = .ok (.getfield 130, 3) := by decide +kernel
theorem dX7_readTest_130 : decode cX7_readTest 130 = .ok (.invokevirtual 199, 3) := by decide +kernel
theorem dX7_readTest_133 : decode cX7_readTest 133 = .ok (.pop, 1) := by decide +kernel
theorem dX7_readTest_134 : decode cX7_readTest 134 = .ok (.iconst 1, 1) := by decide +kernel
theorem dX7_readTest_135 : decode cX7_readTest 135 = .ok (.ireturn, 1) := by decide +kernel
theorem dX7_readTest_136 : decode cX7_readTest 136 = .ok (.aload_n 0, 1) := by decide +kernel
theorem dX7_readTest_137 : decode cX7_readTest 137 = .ok (.invokevirtual 265, 3) := by decide +kernel
theorem dX7_readTest_140 : decode cX7_readTest 140 = .ok (.ireturn, 1) := by decide +kernel
theorem dX7_readTest_141 : decode cX7_readTest 141 = .ok (.aload_n 0, 1) := by decide +kernel
theorem dX7_readTest_142 : decode cX7_readTest 142 = .ok (.iconst 1, 1) := by decide +kernel
theorem dX7_readTest_143 : decode cX7_readTest 143 = .ok (.invokevirtual 48, 3) := by decide +kernel
theorem dX7_readTest_146 : decode cX7_readTest 146 = .ok (.ireturn, 1) := by decide +kernel
def o_X7_readTest (N : Nat) (fo_readNot : (Int → St → Option (Int × St))) (fo_readGroup : (Int → St → Option (Int × St))) (fo_readEither : (Int → St → Option (Int × St))) (fo_readForms : (St → Option (Int × St))) (t : St) : Option (Int × St) :=
    lt1 (t.1 303 3) fun v1 =>
    rnI v1 (if v1 = 26 then (bdI (fo_readNot 1 t) fun v3 t2 =>
    boI v3 (some (v3, t2)))
    else (if v1 = 27 then (bdI (f_X0_put N 13 0 t) fun v5 t4 =>
    bdI (f_X7_pass N t4) fun v7 t6 =>
    boI v7 (some (v7, t6)))
    else (if v1 = 28 then (bdI (f_X7_pass N t) fun v9 t8 =>
    cmpI v9 0 (if v9 = 0 then (boI 0 (some (0, t8)))
    else (bdI (fo_readEither 0 t8) fun v11 t10 =>
    cmpI v11 0 (if v11 = 0 then (boI 0 (some (0, t10)))
    else (bdI (f_X7_take N 29 t10) fun v13 t12 =>
    cmpI v13 0 (if v13 = 0 then (boI 0 (some (0, t12)))
    else (bdI (f_X7_takeNumber N 0 64 t12) fun v15 t14 =>
    cmpI v15 0 (if v15 = 0 then (boI 0 (some (0, t14)))
    else (lt1 (t14.1 303 8) fun v16 =>
    bdI (f_X0_put N 14 v16 t14) fun v18 t17 =>
    boI 1 (some (1, t17)))))))))))
    else (if v1 = 30 then (bdI (fo_readForms t) fun v20 t19 =>
    boI v20 (some (v20, t19)))
    else (if v1 = 42 then (bdI (fo_readGroup 1 t) fun v22 t21 =>
    boI v22 (some (v22, t21)))
    else (bdI (f_X7_wrong N 1 t) fun v24 t23 =>
    boI v24 (some (v24, t23))))))))
set_option maxHeartbeats 4000000 in
set_option maxRecDepth 100000 in
theorem b_o_X7_readTest {p : Program} {l : Launch} {e : Env} {s : State} {m : MethodId} {args : Array Value} {below : List Frame} {meth : Method} {c : Code} {E : cE} {A : Nat → Prop} {r : Nat → Nat} {mc ms : Nat} {z : Int × St} {N : Nat} {D9 : Nat} {fo_readNot : (Int → St → Option (Int × St))} {fo_readGroup : (Int → St → Option (Int × St))} {fo_readEither : (Int → St → Option (Int × St))} {fo_readForms : (St → Option (Int × St))} (ho_readNot : ∀ (a0 : Int) (t : St) (z : Int × St), fo_readNot a0 t = some z → cM l E yX7_readNot cX7_readNot 2 (some .boolean) (rmS_readEither D9) [.ref (r 303), iv a0] (gW E r shH t) (gqI E (gW E r shH) z)) (ho_readGroup : ∀ (a0 : Int) (t : St) (z : Int × St), fo_readGroup a0 t = some z → cM l E yX7_readGroup cX7_readGroup 2 (some .boolean) (rmS_readEither D9) [.ref (r 303), iv a0] (gW E r shH t) (gqI E (gW E r shH) z)) (ho_readEither : ∀ (a0 : Int) (t : St) (z : Int × St), fo_readEither a0 t = some z → cM l E yX7_readEither cX7_readEither 3 (some .boolean) (rmS_readEither D9) [.ref (r 303), iv a0] (gW E r shH t) (gqI E (gW E r shH) z)) (ho_readForms : ∀ (t : St) (z : Int × St), fo_readForms t = some z → cM l E yX7_readForms cX7_readForms 2 (some .boolean) (rmS_readEither D9) [.ref (r 303)] (gW E r shH t) (gqI E (gW E r shH) z)) {t : St} (X : gX p s m meth c cX7_readTest 1 (some .boolean) yX7_readTest args E A) (h : o_X7_readTest N fo_readNot fo_readGroup fo_readEither fo_readForms t = some z) : gP p l e (rmS_readEither (D9 + 1)) s m args below meth c E A 1 (MQ below ((gqI E (gW E r shH) z) A) args s mc ms A) (gW E r shH) 0 [(0, .ref (r 303))] [] t := by
  unfold o_X7_readTest at h
  refine g_aload_n X dX7_readTest_0 0 rfl ?_
  refine g_getI X fH_X7_29_303 rfl dX7_readTest_1 h (fun v1 h => ?_)
  obtain ⟨hr9, h⟩ := rnI_some h
  by_cases e9_26 : v1 = 26
  · rw [if_pos e9_26] at h
    refine g_lookup X (tgt := 56) (off := 52) dX7_readTest_4 hr9 (by decide) (by rw [e9_26]; decide) (by decide) ?_
    refine g_aload_n X dX7_readTest_56 0 rfl ?_
    refine g_iconst X dX7_readTest_57 ?_
    refine g_callOI (rest := []) X (fun u9 h9 => ho_readNot 1 t u9 h9) yy_X7_readNot yi_X7_readNot wdM_RX7_259 ⟨_, _, oH_303⟩ rfl rfl rfl (Nat.le_of_ble_eq_true rfl) dX7_readTest_58 ⟨by show D9 + 2 + 1 ≤ D9 + 1 + 2; omega, by show 8 + (2 + 11) + (60 * D9 + 45) ≤ 60 * (D9 + 1) + 45; omega⟩ ⟨rfl, rfl⟩ h (fun v3 t2 h => ?_)
    exact g_zret X h dX7_readTest_61
  · rw [if_neg e9_26] at h
    by_cases e9_27 : v1 = 27
    · rw [if_pos e9_27] at h
      refine g_lookup X (tgt := 68) (off := 64) dX7_readTest_4 hr9 (by decide) (by rw [e9_27]; decide) (by decide) ?_
      refine g_aload_n X dX7_readTest_68 0 rfl ?_
      refine g_getR X fH_X7_19_303 rfl dX7_readTest_69 ?_
      refine g_bipush X dX7_readTest_72 (by decide) ?_
      refine g_iconst X dX7_readTest_74 ?_
      refine g_callOI (rest := []) X (fun u9 h9 => cp_X0_put l E r N 13 0 t u9 h9) yy_X0_put yi_X0_put wdM_RX7_199 ⟨_, _, oH_302⟩ rfl rfl rfl (Nat.le_of_ble_eq_true rfl) dX7_readTest_75 ⟨by show 0 + 1 ≤ D9 + 1 + 2; omega, by show 8 + (4 + 11) + 0 ≤ 60 * (D9 + 1) + 45; omega⟩ ⟨rfl, rfl⟩ h (fun v5 t4 h => ?_)
      refine g_pop X rfl dX7_readTest_78 ?_
      refine g_aload_n X dX7_readTest_79 0 rfl ?_
      refine g_callOI (rest := []) X (fun u9 h9 => cp_X7_pass l E r N t4 u9 h9) yy_X7_pass yi_X7_pass wdM_RX7_127 ⟨_, _, oH_303⟩ rfl rfl rfl (Nat.le_of_ble_eq_true rfl) dX7_readTest_80 ⟨by show 0 + 1 ≤ D9 + 1 + 2; omega, by show 8 + (2 + 11) + 0 ≤ 60 * (D9 + 1) + 45; omega⟩ ⟨rfl, rfl⟩ h (fun v7 t6 h => ?_)
      exact g_zret X h dX7_readTest_83
    · rw [if_neg e9_27] at h
      by_cases e9_28 : v1 = 28
      · rw [if_pos e9_28] at h
        refine g_lookup X (tgt := 84) (off := 80) dX7_readTest_4 hr9 (by decide) (by rw [e9_28]; decide) (by decide) ?_
        refine g_aload_n X dX7_readTest_84 0 rfl ?_
        refine g_callOI (rest := []) X (fun u9 h9 => cp_X7_pass l E r N t u9 h9) yy_X7_pass yi_X7_pass wdM_RX7_127 ⟨_, _, oH_303⟩ rfl rfl rfl (Nat.le_of_ble_eq_true rfl) dX7_readTest_85 ⟨by show 0 + 1 ≤ D9 + 1 + 2; omega, by show 8 + (2 + 11) + 0 ≤ 60 * (D9 + 1) + 45; omega⟩ ⟨rfl, rfl⟩ h (fun v9 t8 h => ?_)
        refine g_if_eq (tgt := 118) X dX7_readTest_88 (by decide) h (fun h => ?_) (fun h => ?_)
        · refine g_iconst X dX7_readTest_118 ?_
          exact g_zret X h dX7_readTest_119
        · refine g_aload_n X dX7_readTest_91 0 rfl ?_
          refine g_iconst X dX7_readTest_92 ?_
          refine g_callOI (rest := []) X (fun u9 h9 => ho_readEither 0 t8 u9 h9) yy_X7_readEither yi_X7_readEither wdM_RX7_240 ⟨_, _, oH_303⟩ rfl rfl rfl (Nat.le_of_ble_eq_true rfl) dX7_readTest_93 ⟨by show D9 + 2 + 1 ≤ D9 + 1 + 2; omega, by show 8 + (3 + 11) + (60 * D9 + 45) ≤ 60 * (D9 + 1) + 45; omega⟩ ⟨rfl, rfl⟩ h (fun v11 t10 h => ?_)
          refine g_if_eq (tgt := 118) X dX7_readTest_96 (by decide) h (fun h => ?_) (fun h => ?_)
          · refine g_iconst X dX7_readTest_118 ?_
            exact g_zret X h dX7_readTest_119
          · refine g_aload_n X dX7_readTest_99 0 rfl ?_
            refine g_bipush X dX7_readTest_100 (by decide) ?_
            refine g_callOI (rest := []) X (fun u9 h9 => cp_X7_take l E r N 29 t10 u9 h9) yy_X7_take yi_X7_take wdM_RX7_58 ⟨_, _, oH_303⟩ rfl rfl rfl (Nat.le_of_ble_eq_true rfl) dX7_readTest_102 ⟨by show 1 + 1 ≤ D9 + 1 + 2; omega, by show 8 + (2 + 11) + 21 ≤ 60 * (D9 + 1) + 45; omega⟩ ⟨rfl, rfl⟩ h (fun v13 t12 h => ?_)
            refine g_if_eq (tgt := 118) X dX7_readTest_105 (by decide) h (fun h => ?_) (fun h => ?_)
            · refine g_iconst X dX7_readTest_118 ?_
              exact g_zret X h dX7_readTest_119
            · refine g_aload_n X dX7_readTest_108 0 rfl ?_
              refine g_iconst X dX7_readTest_109 ?_
              refine g_bipush X dX7_readTest_110 (by decide) ?_
              refine g_callOI (rest := []) X (fun u9 h9 => cp_X7_takeNumber l E r N 0 64 t12 u9 h9) yy_X7_takeNumber yi_X7_takeNumber wdM_RX7_171 ⟨_, _, oH_303⟩ rfl rfl rfl (Nat.le_of_ble_eq_true rfl) dX7_readTest_112 ⟨by show 1 + 1 ≤ D9 + 1 + 2; omega, by show 8 + (4 + 11) + 22 ≤ 60 * (D9 + 1) + 45; omega⟩ ⟨rfl, rfl⟩ h (fun v15 t14 h => ?_)
              refine g_if_ne (tgt := 120) X dX7_readTest_115 (by decide) h (fun h => ?_) (fun h => ?_)
              · refine g_aload_n X dX7_readTest_120 0 rfl ?_
                refine g_getR X fH_X7_19_303 rfl dX7_readTest_121 ?_
                refine g_bipush X dX7_readTest_124 (by decide) ?_
                refine g_aload_n X dX7_readTest_126 0 rfl ?_
                refine g_getI X fH_X7_130_303 rfl dX7_readTest_127 h (fun v16 h => ?_)
                refine g_callOI (rest := []) X (fun u9 h9 => cp_X0_put l E r N 14 v16 t14 u9 h9) yy_X0_put yi_X0_put wdM_RX7_199 ⟨_, _, oH_302⟩ rfl rfl rfl (Nat.le_of_ble_eq_true rfl) dX7_readTest_130 ⟨by show 0 + 1 ≤ D9 + 1 + 2; omega, by show 8 + (4 + 11) + 0 ≤ 60 * (D9 + 1) + 45; omega⟩ ⟨rfl, rfl⟩ h (fun v18 t17 h => ?_)
                refine g_pop X rfl dX7_readTest_133 ?_
                refine g_iconst X dX7_readTest_134 ?_
                exact g_zret X h dX7_readTest_135
              · refine g_iconst X dX7_readTest_118 ?_
                exact g_zret X h dX7_readTest_119
      · rw [if_neg e9_28] at h
        by_cases e9_30 : v1 = 30
        · rw [if_pos e9_30] at h
          refine g_lookup X (tgt := 136) (off := 132) dX7_readTest_4 hr9 (by decide) (by rw [e9_30]; decide) (by decide) ?_
          refine g_aload_n X dX7_readTest_136 0 rfl ?_
          refine g_callOI (rest := []) X (fun u9 h9 => ho_readForms t u9 h9) yy_X7_readForms yi_X7_readForms wdM_RX7_265 ⟨_, _, oH_303⟩ rfl rfl rfl (Nat.le_of_ble_eq_true rfl) dX7_readTest_137 ⟨by show D9 + 2 + 1 ≤ D9 + 1 + 2; omega, by show 8 + (2 + 11) + (60 * D9 + 45) ≤ 60 * (D9 + 1) + 45; omega⟩ ⟨rfl, rfl⟩ h (fun v20 t19 h => ?_)
          exact g_zret X h dX7_readTest_140
        · rw [if_neg e9_30] at h
          by_cases e9_42 : v1 = 42
          · rw [if_pos e9_42] at h
            refine g_lookup X (tgt := 62) (off := 58) dX7_readTest_4 hr9 (by decide) (by rw [e9_42]; decide) (by decide) ?_
            refine g_aload_n X dX7_readTest_62 0 rfl ?_
            refine g_iconst X dX7_readTest_63 ?_
            refine g_callOI (rest := []) X (fun u9 h9 => ho_readGroup 1 t u9 h9) yy_X7_readGroup yi_X7_readGroup wdM_RX7_262 ⟨_, _, oH_303⟩ rfl rfl rfl (Nat.le_of_ble_eq_true rfl) dX7_readTest_64 ⟨by show D9 + 2 + 1 ≤ D9 + 1 + 2; omega, by show 8 + (2 + 11) + (60 * D9 + 45) ≤ 60 * (D9 + 1) + 45; omega⟩ ⟨rfl, rfl⟩ h (fun v22 t21 h => ?_)
            exact g_zret X h dX7_readTest_67
          · rw [if_neg e9_42] at h
            refine g_lookup X (tgt := 141) (off := 137) dX7_readTest_4 hr9 (by decide) (by simp only [Op.lookupswitch.offset]; simp [e9_26, Ne.symm (a := v1) (b := 26) e9_26, e9_27, Ne.symm (a := v1) (b := 27) e9_27, e9_28, Ne.symm (a := v1) (b := 28) e9_28, e9_30, Ne.symm (a := v1) (b := 30) e9_30, e9_42, Ne.symm (a := v1) (b := 42) e9_42]) (by decide) ?_
            refine g_aload_n X dX7_readTest_141 0 rfl ?_
            refine g_iconst X dX7_readTest_142 ?_
            refine g_callOI (rest := []) X (fun u9 h9 => cp_X7_wrong l E r N 1 t u9 h9) yy_X7_wrong yi_X7_wrong wdM_RX7_48 ⟨_, _, oH_303⟩ rfl rfl rfl (Nat.le_of_ble_eq_true rfl) dX7_readTest_143 ⟨by show 0 + 1 ≤ D9 + 1 + 2; omega, by show 8 + (2 + 11) + 0 ≤ 60 * (D9 + 1) + 45; omega⟩ ⟨rfl, rfl⟩ h (fun v24 t23 h => ?_)
            exact g_zret X h dX7_readTest_146
set_option maxHeartbeats 4000000 in
set_option maxRecDepth 100000 in
theorem cpo_X7_readTest (l : Launch) (E : cE) (r : Nat → Nat) (N : Nat) (D9 : Nat) (fo_readNot : (Int → St → Option (Int × St))) (fo_readGroup : (Int → St → Option (Int × St))) (fo_readEither : (Int → St → Option (Int × St))) (fo_readForms : (St → Option (Int × St))) (ho_readNot : ∀ (a0 : Int) (t : St) (z : Int × St), fo_readNot a0 t = some z → cM l E yX7_readNot cX7_readNot 2 (some .boolean) (rmS_readEither D9) [.ref (r 303), iv a0] (gW E r shH t) (gqI E (gW E r shH) z)) (ho_readGroup : ∀ (a0 : Int) (t : St) (z : Int × St), fo_readGroup a0 t = some z → cM l E yX7_readGroup cX7_readGroup 2 (some .boolean) (rmS_readEither D9) [.ref (r 303), iv a0] (gW E r shH t) (gqI E (gW E r shH) z)) (ho_readEither : ∀ (a0 : Int) (t : St) (z : Int × St), fo_readEither a0 t = some z → cM l E yX7_readEither cX7_readEither 3 (some .boolean) (rmS_readEither D9) [.ref (r 303), iv a0] (gW E r shH t) (gqI E (gW E r shH) z)) (ho_readForms : ∀ (t : St) (z : Int × St), fo_readForms t = some z → cM l E yX7_readForms cX7_readForms 2 (some .boolean) (rmS_readEither D9) [.ref (r 303)] (gW E r shH t) (gqI E (gW E r shH) z)) (t : St) (z : Int × St) (h : o_X7_readTest N fo_readNot fo_readGroup fo_readEither fo_readForms t = some z) : cM l E yX7_readTest cX7_readTest 1 (some .boolean) (rmS_readEither (D9 + 1)) [.ref (r 303)] (gW E r shH t) (gqI E (gW E r shH) z) := by
  refine g_of (w := gW E r shH) (by decide) (Nat.le_of_ble_eq_true rfl) ?_
  intro p e s m below meth c A X
  exact g_sub (lv' := [(0, .ref (r 303))]) [0] rfl (b_o_X7_readTest ho_readNot ho_readGroup ho_readEither ho_readForms X h)
theorem dX7_readNot_0 : decode cX7_readNot 0 = .ok (.aload_n 0, 1) := by decide +kernel
theorem dX7_readNot_1 : decode cX7_readNot 1 = .ok (.invokevirtual 212, 3) := by decide +kernel
theorem dX7_readNot_4 : decode cX7_readNot 4 = .ok (.ifCond .eq 11, 3) := by decide +kernel
theorem dX7_readNot_7 : decode cX7_readNot 7 = .ok (.aload_n 0, 1) := by decide +kernel
theorem dX7_readNot_8 : decode cX7_readNot 8 = .ok (.iload_n 1, 1) := by decide +kernel
theorem dX7_readNot_9 : decode cX7_readNot 9 = .ok (.invokevirtual 250, 3) := by decide +kernel
theorem dX7_readNot_12 : decode cX7_readNot 12 = .ok (.ifCond .ne 5, 3) := by decide +kernel
theorem dX7_readNot_15 : decode cX7_readNot 15 = .ok (.iconst 0, 1) := by decide +kernel
theorem dX7_readNot_16 : decode cX7_readNot 16 = .ok (.ireturn, 1) := by decide +kernel
theorem dX7_readNot_17 : decode cX7_readNot 17 = .ok (.aload_n 0, 1) := by decide +kernel
theorem dX7_readNot_18 : decode cX7_readNot 18 = .ok (.dup, 1) := by decide +kernel
theorem dX7_readNot_19 : decode cX7_readNot 19 = .ok (.getfield 96, 3) := by decide +kernel
theorem dX7_readNot_22 : decode cX7_readNot 22 = .ok (.iconst 1, 1) := by decide +kernel
theorem dX7_readNot_23 : decode cX7_readNot 23 = .ok (.isub, 1) := by decide +kernel
theorem dX7_readNot_24 : decode cX7_readNot 24 = .ok (.putfield 96, 3) := by decide +kernel
theorem dX7_readNot_27 : decode cX7_readNot 27 = .ok (.aload_n 0, 1) := by decide +kernel
theorem dX7_readNot_28 : decode cX7_readNot 28 = .ok (.getfield 19, 3) := by decide +kernel
theorem dX7_readNot_31 : decode cX7_readNot 31 = .ok (.iload_n 1, 1) := by decide +kernel
theorem dX7_readNot_32 : decode cX7_readNot 32 = .ok (.ifCond .eq 8, 3) := by decide +kernel
theorem dX7_readNot_35 : decode cX7_readNot 35 = .ok (.bipush 16, 2) := by decide +kernel
theorem dX7_readNot_37 : decode cX7_readNot 37 = .ok (.goto 5, 3) := by decide +kernel
theorem dX7_readNot_40 : decode cX7_readNot 40 = .ok (.bipush 12, 2) := by decide +kernel
theorem dX7_readNot_42 : decode cX7_readNot 42 = .ok (.iconst 0, 1) := by decide +kernel
theorem dX7_readNot_43 : decode cX7_readNot 43 = .ok (.invokevirtual 199, 3) := by decide +kernel
theorem dX7_readNot_46 : decode cX7_readNot 46 = .ok (.pop, 1) := by decide +kernel
theorem dX7_readNot_47 : decode cX7_readNot 47 = .ok (.iconst 1, 1) := by decide +kernel
theorem dX7_readNot_48 : decode cX7_readNot 48 = .ok (.ireturn, 1) := by decide +kernel
def o_X7_readNot (N : Nat) (fo_readSingle : (Int → St → Option (Int × St))) (a0 : Int) (t : St) : Option (Int × St) :=
    bdI (f_X7_nest N t) fun v2 t1 =>
    cmpI v2 0 (if v2 = 0 then (boI 0 (some (0, t1)))
    else (bdI (fo_readSingle a0 t1) fun v4 t3 =>
    cmpI v4 0 (if v4 = 0 then (boI 0 (some (0, t3)))
    else (lt1 (t3.1 303 6) fun v5 =>
    lt1 (pI t3 303 6 (v5 - 1)) fun t6 =>
    jn1 (fun (j7 : Int) (t8 : St) => bdI (f_X0_put N j7 0 t8) fun v11 t10 =>
    boI 1 (some (1, t10))) fun J9 =>
    cmpI a0 0 (if a0 = 0 then (J9 12 t6)
    else (J9 16 t6))))))
set_option maxHeartbeats 4000000 in
set_option maxRecDepth 100000 in
theorem b_o_X7_readNot {p : Program} {l : Launch} {e : Env} {s : State} {m : MethodId} {args : Array Value} {below : List Frame} {meth : Method} {c : Code} {E : cE} {A : Nat → Prop} {r : Nat → Nat} {mc ms : Nat} {z : Int × St} {N : Nat} {D9 : Nat} {fo_readSingle : (Int → St → Option (Int × St))} (ho_readSingle : ∀ (a0 : Int) (t : St) (z : Int × St), fo_readSingle a0 t = some z → cM l E yX7_readSingle cX7_readSingle 2 (some .boolean) (rmS_readEither D9) [.ref (r 303), iv a0] (gW E r shH t) (gqI E (gW E r shH) z)) {a0 : Int} {t : St} (X : gX p s m meth c cX7_readNot 2 (some .boolean) yX7_readNot args E A) (h : o_X7_readNot N fo_readSingle a0 t = some z) : gP p l e (rmS_readEither (D9 + 1)) s m args below meth c E A 2 (MQ below ((gqI E (gW E r shH) z) A) args s mc ms A) (gW E r shH) 0 [(0, .ref (r 303)), (1, iv a0)] [] t := by
  unfold o_X7_readNot at h
  refine g_aload_n X dX7_readNot_0 0 rfl ?_
  refine g_callOI (rest := []) X (fun u9 h9 => cp_X7_nest l E r N t u9 h9) yy_X7_nest yi_X7_nest wdM_RX7_212 ⟨_, _, oH_303⟩ rfl rfl rfl (Nat.le_of_ble_eq_true rfl) dX7_readNot_1 ⟨by show 1 + 1 ≤ D9 + 1 + 2; omega, by show 8 + (1 + 11) + 21 ≤ 60 * (D9 + 1) + 45; omega⟩ ⟨rfl, rfl⟩ h (fun v2 t1 h => ?_)
  refine g_if_eq (tgt := 15) X dX7_readNot_4 (by decide) h (fun h => ?_) (fun h => ?_)
  · refine g_iconst X dX7_readNot_15 ?_
    exact g_zret X h dX7_readNot_16
  · refine g_aload_n X dX7_readNot_7 0 rfl ?_
    refine g_iload_n X dX7_readNot_8 1 rfl ?_
    refine g_callOI (rest := []) X (fun u9 h9 => ho_readSingle a0 t1 u9 h9) yy_X7_readSingle yi_X7_readSingle wdM_RX7_250 ⟨_, _, oH_303⟩ rfl rfl rfl (Nat.le_of_ble_eq_true rfl) dX7_readNot_9 ⟨by show D9 + 2 + 1 ≤ D9 + 1 + 2; omega, by show 8 + (2 + 11) + (60 * D9 + 45) ≤ 60 * (D9 + 1) + 45; omega⟩ ⟨rfl, rfl⟩ h (fun v4 t3 h => ?_)
    refine g_if_ne (tgt := 17) X dX7_readNot_12 (by decide) h (fun h => ?_) (fun h => ?_)
    · refine g_aload_n X dX7_readNot_17 0 rfl ?_
      refine g_dup X rfl dX7_readNot_18 ?_
      refine g_getI X fH_X7_96_303 rfl dX7_readNot_19 h (fun v5 h => ?_)
      refine g_iconst X dX7_readNot_22 ?_
      refine g_isub X dX7_readNot_23 ?_
      refine g_putI X fH_X7_96_303w rfl dX7_readNot_24 h (fun t6 h => ?_)
      refine g_aload_n X dX7_readNot_27 0 rfl ?_
      refine g_getR X fH_X7_19_303 rfl dX7_readNot_28 ?_
      refine g_iload_n X dX7_readNot_31 1 rfl ?_
      refine g_join (J := fun jj => ∀ (j7 : Int) (t8 : St), jj j7 t8 = some z → gP p l e (rmS_readEither (D9 + 1)) s m args below meth c E A 2 (MQ below ((gqI E (gW E r shH) z) A) args s mc ms A) (gW E r shH) 42 [] [iv j7, .ref (r 302)] t8) h (fun j7 t8 h => ?_) (fun J9 hJ9 h => ?_)
      · refine g_iconst X dX7_readNot_42 ?_
        refine g_callOI (rest := []) X (fun u9 h9 => cp_X0_put l E r N j7 0 t8 u9 h9) yy_X0_put yi_X0_put wdM_RX7_199 ⟨_, _, oH_302⟩ rfl rfl rfl (Nat.le_of_ble_eq_true rfl) dX7_readNot_43 ⟨by show 0 + 1 ≤ D9 + 1 + 2; omega, by show 8 + (4 + 11) + 0 ≤ 60 * (D9 + 1) + 45; omega⟩ ⟨rfl, rfl⟩ h (fun v11 t10 h => ?_)
        refine g_pop X rfl dX7_readNot_46 ?_
        refine g_iconst X dX7_readNot_47 ?_
        exact g_zret X h dX7_readNot_48
      refine g_if_eq (tgt := 40) X dX7_readNot_32 (by decide) h (fun h => ?_) (fun h => ?_)
      · refine g_bipush X dX7_readNot_40 (by decide) ?_
        exact g_sub (lv' := []) [] rfl (hJ9 12 t6 h)
      · refine g_bipush X dX7_readNot_35 (by decide) ?_
        refine g_goto (tgt := 42) X dX7_readNot_37 (by decide) ?_
        exact g_sub (lv' := []) [] rfl (hJ9 16 t6 h)
    · refine g_iconst X dX7_readNot_15 ?_
      exact g_zret X h dX7_readNot_16
set_option maxHeartbeats 4000000 in
set_option maxRecDepth 100000 in
theorem cpo_X7_readNot (l : Launch) (E : cE) (r : Nat → Nat) (N : Nat) (D9 : Nat) (fo_readSingle : (Int → St → Option (Int × St))) (ho_readSingle : ∀ (a0 : Int) (t : St) (z : Int × St), fo_readSingle a0 t = some z → cM l E yX7_readSingle cX7_readSingle 2 (some .boolean) (rmS_readEither D9) [.ref (r 303), iv a0] (gW E r shH t) (gqI E (gW E r shH) z)) (a0 : Int) (t : St) (z : Int × St) (h : o_X7_readNot N fo_readSingle a0 t = some z) : cM l E yX7_readNot cX7_readNot 2 (some .boolean) (rmS_readEither (D9 + 1)) [.ref (r 303), iv a0] (gW E r shH t) (gqI E (gW E r shH) z) := by
  refine g_of (w := gW E r shH) (by decide) (Nat.le_of_ble_eq_true rfl) ?_
  intro p e s m below meth c A X
  exact g_sub (lv' := [(0, .ref (r 303)), (1, iv a0)]) [0, 1] rfl (b_o_X7_readNot ho_readSingle X h)
theorem dX7_readGroup_0 : decode cX7_readGroup 0 = .ok (.aload_n 0, 1) := by decide +kernel
theorem dX7_readGroup_1 : decode cX7_readGroup 1 = .ok (.invokevirtual 212, 3) := by decide +kernel
theorem dX7_readGroup_4 : decode cX7_readGroup 4 = .ok (.ifCond .eq 11, 3) := by decide +kernel
theorem dX7_readGroup_7 : decode cX7_readGroup 7 = .ok (.aload_n 0, 1) := by decide +kernel
theorem dX7_readGroup_8 : decode cX7_readGroup 8 = .ok (.iload_n 1, 1) := by decide +kernel
theorem dX7_readGroup_9 : decode cX7_readGroup 9 = .ok (.invokevirtual 240, 3) := by decide +kernel
theorem dX7_readGroup_12 : decode cX7_readGroup 12 = .ok (.ifCond .ne 5, 3) := by decide +kernel
theorem dX7_readGroup_15 : decode cX7_readGroup 15 = .ok (.iconst 0, 1) := by decide +kernel
theorem dX7_readGroup_16 : decode cX7_readGroup 16 = .ok (.ireturn, 1) := by decide +kernel
theorem dX7_readGroup_17 : decode cX7_readGroup 17 = .ok (.aload_n 0, 1) := by decide +kernel
theorem dX7_readGroup_18 : decode cX7_readGroup 18 = .ok (.dup, 1) := by decide +kernel
theorem dX7_readGroup_19 : decode cX7_readGroup 19 = .ok (.getfield 96, 3) := by decide +kernel
theorem dX7_readGroup_22 : decode cX7_readGroup 22 = .ok (.iconst 1, 1) := by decide +kernel
theorem dX7_readGroup_23 : decode cX7_readGroup 23 = .ok (.isub, 1) := by decide +kernel
theorem dX7_readGroup_24 : decode cX7_readGroup 24 = .ok (.putfield 96, 3) := by decide +kernel
theorem dX7_readGroup_27 : decode cX7_readGroup 27 = .ok (.aload_n 0, 1) := by decide +kernel
theorem dX7_readGroup_28 : decode cX7_readGroup 28 = .ok (.bipush 43, 2) := by decide +kernel
theorem dX7_readGroup_30 : decode cX7_readGroup 30 = .ok (.invokevirtual 58, 3) := by decide +kernel
theorem dX7_readGroup_33 : decode cX7_readGroup 33 = .ok (.ireturn, 1) := by decide +kernel
def o_X7_readGroup (N : Nat) (fo_readEither : (Int → St → Option (Int × St))) (a0 : Int) (t : St) : Option (Int × St) :=
    bdI (f_X7_nest N t) fun v2 t1 =>
    cmpI v2 0 (if v2 = 0 then (boI 0 (some (0, t1)))
    else (bdI (fo_readEither a0 t1) fun v4 t3 =>
    cmpI v4 0 (if v4 = 0 then (boI 0 (some (0, t3)))
    else (lt1 (t3.1 303 6) fun v5 =>
    lt1 (pI t3 303 6 (v5 - 1)) fun t6 =>
    bdI (f_X7_take N 43 t6) fun v8 t7 =>
    boI v8 (some (v8, t7))))))
set_option maxHeartbeats 4000000 in
set_option maxRecDepth 100000 in
theorem b_o_X7_readGroup {p : Program} {l : Launch} {e : Env} {s : State} {m : MethodId} {args : Array Value} {below : List Frame} {meth : Method} {c : Code} {E : cE} {A : Nat → Prop} {r : Nat → Nat} {mc ms : Nat} {z : Int × St} {N : Nat} {D9 : Nat} {fo_readEither : (Int → St → Option (Int × St))} (ho_readEither : ∀ (a0 : Int) (t : St) (z : Int × St), fo_readEither a0 t = some z → cM l E yX7_readEither cX7_readEither 3 (some .boolean) (rmS_readEither D9) [.ref (r 303), iv a0] (gW E r shH t) (gqI E (gW E r shH) z)) {a0 : Int} {t : St} (X : gX p s m meth c cX7_readGroup 2 (some .boolean) yX7_readGroup args E A) (h : o_X7_readGroup N fo_readEither a0 t = some z) : gP p l e (rmS_readEither (D9 + 1)) s m args below meth c E A 2 (MQ below ((gqI E (gW E r shH) z) A) args s mc ms A) (gW E r shH) 0 [(0, .ref (r 303)), (1, iv a0)] [] t := by
  unfold o_X7_readGroup at h
  refine g_aload_n X dX7_readGroup_0 0 rfl ?_
  refine g_callOI (rest := []) X (fun u9 h9 => cp_X7_nest l E r N t u9 h9) yy_X7_nest yi_X7_nest wdM_RX7_212 ⟨_, _, oH_303⟩ rfl rfl rfl (Nat.le_of_ble_eq_true rfl) dX7_readGroup_1 ⟨by show 1 + 1 ≤ D9 + 1 + 2; omega, by show 8 + (1 + 11) + 21 ≤ 60 * (D9 + 1) + 45; omega⟩ ⟨rfl, rfl⟩ h (fun v2 t1 h => ?_)
  refine g_if_eq (tgt := 15) X dX7_readGroup_4 (by decide) h (fun h => ?_) (fun h => ?_)
  · refine g_iconst X dX7_readGroup_15 ?_
    exact g_zret X h dX7_readGroup_16
  · refine g_aload_n X dX7_readGroup_7 0 rfl ?_
    refine g_iload_n X dX7_readGroup_8 1 rfl ?_
    refine g_callOI (rest := []) X (fun u9 h9 => ho_readEither a0 t1 u9 h9) yy_X7_readEither yi_X7_readEither wdM_RX7_240 ⟨_, _, oH_303⟩ rfl rfl rfl (Nat.le_of_ble_eq_true rfl) dX7_readGroup_9 ⟨by show D9 + 2 + 1 ≤ D9 + 1 + 2; omega, by show 8 + (3 + 11) + (60 * D9 + 45) ≤ 60 * (D9 + 1) + 45; omega⟩ ⟨rfl, rfl⟩ h (fun v4 t3 h => ?_)
    refine g_if_ne (tgt := 17) X dX7_readGroup_12 (by decide) h (fun h => ?_) (fun h => ?_)
    · refine g_aload_n X dX7_readGroup_17 0 rfl ?_
      refine g_dup X rfl dX7_readGroup_18 ?_
      refine g_getI X fH_X7_96_303 rfl dX7_readGroup_19 h (fun v5 h => ?_)
      refine g_iconst X dX7_readGroup_22 ?_
      refine g_isub X dX7_readGroup_23 ?_
      refine g_putI X fH_X7_96_303w rfl dX7_readGroup_24 h (fun t6 h => ?_)
      refine g_aload_n X dX7_readGroup_27 0 rfl ?_
      refine g_bipush X dX7_readGroup_28 (by decide) ?_
      refine g_callOI (rest := []) X (fun u9 h9 => cp_X7_take l E r N 43 t6 u9 h9) yy_X7_take yi_X7_take wdM_RX7_58 ⟨_, _, oH_303⟩ rfl rfl rfl (Nat.le_of_ble_eq_true rfl) dX7_readGroup_30 ⟨by show 1 + 1 ≤ D9 + 1 + 2; omega, by show 8 + (2 + 11) + 21 ≤ 60 * (D9 + 1) + 45; omega⟩ ⟨rfl, rfl⟩ h (fun v8 t7 h => ?_)
      exact g_zret X h dX7_readGroup_33
    · refine g_iconst X dX7_readGroup_15 ?_
      exact g_zret X h dX7_readGroup_16
set_option maxHeartbeats 4000000 in
set_option maxRecDepth 100000 in
theorem cpo_X7_readGroup (l : Launch) (E : cE) (r : Nat → Nat) (N : Nat) (D9 : Nat) (fo_readEither : (Int → St → Option (Int × St))) (ho_readEither : ∀ (a0 : Int) (t : St) (z : Int × St), fo_readEither a0 t = some z → cM l E yX7_readEither cX7_readEither 3 (some .boolean) (rmS_readEither D9) [.ref (r 303), iv a0] (gW E r shH t) (gqI E (gW E r shH) z)) (a0 : Int) (t : St) (z : Int × St) (h : o_X7_readGroup N fo_readEither a0 t = some z) : cM l E yX7_readGroup cX7_readGroup 2 (some .boolean) (rmS_readEither (D9 + 1)) [.ref (r 303), iv a0] (gW E r shH t) (gqI E (gW E r shH) z) := by
  refine g_of (w := gW E r shH) (by decide) (Nat.le_of_ble_eq_true rfl) ?_
  intro p e s m below meth c A X
  exact g_sub (lv' := [(0, .ref (r 303)), (1, iv a0)]) [0, 1] rfl (b_o_X7_readGroup ho_readEither X h)
theorem dX7_readForms_0 : decode cX7_readForms 0 = .ok (.aload_n 0, 1) := by decide +kernel
theorem dX7_readForms_1 : decode cX7_readForms 1 = .ok (.dup, 1) := by decide +kernel
theorem dX7_readForms_2 : decode cX7_readForms 2 = .ok (.getfield 244, 3) := by decide +kernel
theorem dX7_readForms_5 : decode cX7_readForms 5 = .ok (.iconst 1, 1) := by decide +kernel
theorem dX7_readForms_6 : decode cX7_readForms 6 = .ok (.iadd, 1) := by decide +kernel
theorem dX7_readForms_7 : decode cX7_readForms 7 = .ok (.putfield 244, 3) := by decide +kernel
theorem dX7_readForms_10 : decode cX7_readForms 10 = .ok (.aload_n 0, 1) := by decide +kernel
theorem dX7_readForms_11 : decode cX7_readForms 11 = .ok (.invokevirtual 127, 3) := by decide +kernel
theorem dX7_readForms_14 : decode cX7_readForms 14 = .ok (.ifCond .eq 17, 3) := by decide +kernel
theorem dX7_readForms_17 : decode cX7_readForms 17 = .ok (.aload_n 0, 1) := by decide +kernel
theorem dX7_readForms_18 : decode cX7_readForms 18 = .ok (.aload_n 0, 1) := by decide +kernel
theorem dX7_readForms_19 : decode cX7_readForms 19 = .ok (.getfield 19, 3) := by decide +kernel
theorem dX7_readForms_22 : decode cX7_readForms 22 = .ok (.getfield 103, 3) := by decide +kernel
theorem dX7_readForms_25 : decode cX7_readForms 25 = .ok (.invokevirtual 164, 3) := by decide +kernel
theorem dX7_readForms_28 : decode cX7_readForms 28 = .ok (.ifCond .ne 5, 3) := by decide +kernel
theorem dX7_readForms_31 : decode cX7_readForms 31 = .ok (.iconst 0, 1) := by decide +kernel
theorem dX7_readForms_32 : decode cX7_readForms 32 = .ok (.ireturn, 1) := by decide +kernel
theorem dX7_readForms_33 : decode cX7_readForms 33 = .ok (.aload_n 0, 1) := by decide +kernel
theorem dX7_readForms_34 : decode cX7_readForms 34 = .ok (.getfield 137, 3) := by decide +kernel
theorem dX7_readForms_37 : decode cX7_readForms 37 = .ok (.istore_n 1, 1) := by decide +kernel
theorem dX7_readForms_38 : decode cX7_readForms 38 = .ok (.aload_n 0, 1) := by decide +kernel
theorem dX7_readForms_39 : decode cX7_readForms 39 = .ok (.iconst 0, 1) := by decide +kernel
theorem dX7_readForms_40 : decode cX7_readForms 40 = .ok (.invokevirtual 240, 3) := by decide +kernel
theorem dX7_readForms_43 : decode cX7_readForms 43 = .ok (.ifCond .ne 5, 3) := by decide +kernel
theorem dX7_readForms_46 : decode cX7_readForms 46 = .ok (.iconst 0, 1) := by decide +kernel
theorem dX7_readForms_47 : decode cX7_readForms 47 = .ok (.ireturn, 1) := by decide +kernel
theorem dX7_readForms_48 : decode cX7_readForms 48 = .ok (.aload_n 0, 1) := by decide +kernel
theorem dX7_readForms_49 : decode cX7_readForms 49 = .ok (.getfield 19, 3) := by decide +kernel
theorem dX7_readForms_52 : decode cX7_readForms 52 = .ok (.bipush 15, 2) := by decide +kernel
theorem dX7_readForms_54 : decode cX7_readForms 54 = .ok (.iload_n 1, 1) := by decide +kernel
theorem dX7_readForms_55 : decode cX7_readForms 55 = .ok (.invokevirtual 199, 3) := by decide +kernel
theorem dX7_readForms_58 : decode cX7_readForms 58 = .ok (.pop, 1) := by decide +kernel
theorem dX7_readForms_59 : decode cX7_readForms 59 = .ok (.iconst 1, 1) := by decide +kernel
theorem dX7_readForms_60 : decode cX7_readForms 60 = .ok (.ireturn, 1) := by decide +kernel
def o_X7_readForms (N : Nat) (fo_readEither : (Int → St → Option (Int × St))) (t : St) : Option (Int × St) :=
    lt1 (t.1 303 10) fun v1 =>
    lt1 (pI t 303 10 (v1 + 1)) fun t2 =>
    bdI (f_X7_pass N t2) fun v4 t3 =>
    cmpI v4 0 (if v4 = 0 then (boI 0 (some (0, t3)))
    else (bdI (f_X7_takeKnown N 0 t3) fun v6 t5 =>
    cmpI v6 0 (if v6 = 0 then (boI 0 (some (0, t5)))
    else (lt1 (t5.1 303 9) fun v7 =>
    bdI (fo_readEither 0 t5) fun v9 t8 =>
    cmpI v9 0 (if v9 = 0 then (boI 0 (some (0, t8)))
    else (bdI (f_X0_put N 15 v7 t8) fun v11 t10 =>
    boI 1 (some (1, t10))))))))
set_option maxHeartbeats 4000000 in
set_option maxRecDepth 100000 in
theorem b_o_X7_readForms {p : Program} {l : Launch} {e : Env} {s : State} {m : MethodId} {args : Array Value} {below : List Frame} {meth : Method} {c : Code} {E : cE} {A : Nat → Prop} {r : Nat → Nat} {mc ms : Nat} {z : Int × St} {N : Nat} {D9 : Nat} {fo_readEither : (Int → St → Option (Int × St))} (ho_readEither : ∀ (a0 : Int) (t : St) (z : Int × St), fo_readEither a0 t = some z → cM l E yX7_readEither cX7_readEither 3 (some .boolean) (rmS_readEither D9) [.ref (r 303), iv a0] (gW E r shH t) (gqI E (gW E r shH) z)) {t : St} (X : gX p s m meth c cX7_readForms 2 (some .boolean) yX7_readForms args E A) (h : o_X7_readForms N fo_readEither t = some z) : gP p l e (rmS_readEither (D9 + 1)) s m args below meth c E A 2 (MQ below ((gqI E (gW E r shH) z) A) args s mc ms A) (gW E r shH) 0 [(0, .ref (r 303))] [] t := by
  unfold o_X7_readForms at h
  refine g_aload_n X dX7_readForms_0 0 rfl ?_
  refine g_dup X rfl dX7_readForms_1 ?_
  refine g_getI X fH_X7_244_303 rfl dX7_readForms_2 h (fun v1 h => ?_)
  refine g_iconst X dX7_readForms_5 ?_
  refine g_iadd X dX7_readForms_6 ?_
  refine g_putI X fH_X7_244_303w rfl dX7_readForms_7 h (fun t2 h => ?_)
  refine g_aload_n X dX7_readForms_10 0 rfl ?_
  refine g_callOI (rest := []) X (fun u9 h9 => cp_X7_pass l E r N t2 u9 h9) yy_X7_pass yi_X7_pass wdM_RX7_127 ⟨_, _, oH_303⟩ rfl rfl rfl (Nat.le_of_ble_eq_true rfl) dX7_readForms_11 ⟨by show 0 + 1 ≤ D9 + 1 + 2; omega, by show 8 + (2 + 11) + 0 ≤ 60 * (D9 + 1) + 45; omega⟩ ⟨rfl, rfl⟩ h (fun v4 t3 h => ?_)
  refine g_if_eq (tgt := 31) X dX7_readForms_14 (by decide) h (fun h => ?_) (fun h => ?_)
  · refine g_iconst X dX7_readForms_31 ?_
    exact g_zret X h dX7_readForms_32
  · refine g_aload_n X dX7_readForms_17 0 rfl ?_
    refine g_aload_n X dX7_readForms_18 0 rfl ?_
    refine g_getR X fH_X7_19_303 rfl dX7_readForms_19 ?_
    refine g_getR X fH_X7_103_302 rfl dX7_readForms_22 ?_
    refine g_callOI (rest := []) X (fun u9 h9 => cp_X7_takeKnown l E r N 0 (by decide) t3 u9 h9) yy_X7_takeKnown yi_X7_takeKnown wdM_RX7_164 ⟨_, _, oH_303⟩ rfl rfl rfl (Nat.le_of_ble_eq_true rfl) dX7_readForms_25 ⟨by show 1 + 1 ≤ D9 + 1 + 2; omega, by show 8 + (2 + 11) + 23 ≤ 60 * (D9 + 1) + 45; omega⟩ ⟨rfl, rfl⟩ h (fun v6 t5 h => ?_)
    refine g_if_ne (tgt := 33) X dX7_readForms_28 (by decide) h (fun h => ?_) (fun h => ?_)
    · refine g_aload_n X dX7_readForms_33 0 rfl ?_
      refine g_getI X fH_X7_137_303 rfl dX7_readForms_34 h (fun v7 h => ?_)
      refine g_istore_n (lv' := [(1, iv v7), (0, .ref (r 303))]) X dX7_readForms_37 rfl (by decide) rfl ?_
      refine g_aload_n X dX7_readForms_38 1 rfl ?_
      refine g_iconst X dX7_readForms_39 ?_
      refine g_callOI (rest := []) X (fun u9 h9 => ho_readEither 0 t5 u9 h9) yy_X7_readEither yi_X7_readEither wdM_RX7_240 ⟨_, _, oH_303⟩ rfl rfl rfl (Nat.le_of_ble_eq_true rfl) dX7_readForms_40 ⟨by show D9 + 2 + 1 ≤ D9 + 1 + 2; omega, by show 8 + (3 + 11) + (60 * D9 + 45) ≤ 60 * (D9 + 1) + 45; omega⟩ ⟨rfl, rfl⟩ h (fun v9 t8 h => ?_)
      refine g_if_ne (tgt := 48) X dX7_readForms_43 (by decide) h (fun h => ?_) (fun h => ?_)
      · refine g_aload_n X dX7_readForms_48 1 rfl ?_
        refine g_getR X fH_X7_19_303 rfl dX7_readForms_49 ?_
        refine g_bipush X dX7_readForms_52 (by decide) ?_
        refine g_iload_n X dX7_readForms_54 0 rfl ?_
        refine g_callOI (rest := []) X (fun u9 h9 => cp_X0_put l E r N 15 v7 t8 u9 h9) yy_X0_put yi_X0_put wdM_RX7_199 ⟨_, _, oH_302⟩ rfl rfl rfl (Nat.le_of_ble_eq_true rfl) dX7_readForms_55 ⟨by show 0 + 1 ≤ D9 + 1 + 2; omega, by show 8 + (4 + 11) + 0 ≤ 60 * (D9 + 1) + 45; omega⟩ ⟨rfl, rfl⟩ h (fun v11 t10 h => ?_)
        refine g_pop X rfl dX7_readForms_58 ?_
        refine g_iconst X dX7_readForms_59 ?_
        exact g_zret X h dX7_readForms_60
      · refine g_iconst X dX7_readForms_46 ?_
        exact g_zret X h dX7_readForms_47
    · refine g_iconst X dX7_readForms_31 ?_
      exact g_zret X h dX7_readForms_32
set_option maxHeartbeats 4000000 in
set_option maxRecDepth 100000 in
theorem cpo_X7_readForms (l : Launch) (E : cE) (r : Nat → Nat) (N : Nat) (D9 : Nat) (fo_readEither : (Int → St → Option (Int × St))) (ho_readEither : ∀ (a0 : Int) (t : St) (z : Int × St), fo_readEither a0 t = some z → cM l E yX7_readEither cX7_readEither 3 (some .boolean) (rmS_readEither D9) [.ref (r 303), iv a0] (gW E r shH t) (gqI E (gW E r shH) z)) (t : St) (z : Int × St) (h : o_X7_readForms N fo_readEither t = some z) : cM l E yX7_readForms cX7_readForms 2 (some .boolean) (rmS_readEither (D9 + 1)) [.ref (r 303)] (gW E r shH t) (gqI E (gW E r shH) z) := by
  refine g_of (w := gW E r shH) (by decide) (Nat.le_of_ble_eq_true rfl) ?_
  intro p e s m below meth c A X
  exact g_sub (lv' := [(0, .ref (r 303))]) [0] rfl (b_o_X7_readForms ho_readEither X h)
def rec_readEither (N : Nat) : Nat → (Int → St → Option (Int × St)) × (Int → St → Option (Int × St)) × (Int → St → Option (Int × St)) × (St → Option (Int × St)) × (St → Option (Int × St)) × (Int → St → Option (Int × St)) × (Int → St → Option (Int × St)) × (St → Option (Int × St))
  | 0 => (fun _ _ => none, fun _ _ => none, fun _ _ => none, fun _ => none, fun _ => none, fun _ _ => none, fun _ _ => none, fun _ => none)
  | D + 1 => (o_X7_readEither N (rec_readEither N D).2.1, o_X7_readBoth N (rec_readEither N D).2.2.1, o_X7_readSingle N (rec_readEither N D).2.2.2.2.1 (rec_readEither N D).2.2.2.1, o_X7_readOne N (rec_readEither N D).2.2.2.2.2.1 (rec_readEither N D).2.2.2.2.2.2.1, o_X7_readTest N (rec_readEither N D).2.2.2.2.2.1 (rec_readEither N D).2.2.2.2.2.2.1 (rec_readEither N D).1 (rec_readEither N D).2.2.2.2.2.2.2, o_X7_readNot N (rec_readEither N D).2.2.1, o_X7_readGroup N (rec_readEither N D).1, o_X7_readForms N (rec_readEither N D).1)
theorem rec_readEither_ok (l : Launch) (E : cE) (r : Nat → Nat) (N : Nat) : ∀ D : Nat, (∀ (a0 : Int) (t : St) (z : Int × St), (rec_readEither N D).1 a0 t = some z → cM l E yX7_readEither cX7_readEither 3 (some .boolean) (rmS_readEither D) [.ref (r 303), iv a0] (gW E r shH t) (gqI E (gW E r shH) z)) ∧ (∀ (a0 : Int) (t : St) (z : Int × St), (rec_readEither N D).2.1 a0 t = some z → cM l E yX7_readBoth cX7_readBoth 3 (some .boolean) (rmS_readEither D) [.ref (r 303), iv a0] (gW E r shH t) (gqI E (gW E r shH) z)) ∧ (∀ (a0 : Int) (t : St) (z : Int × St), (rec_readEither N D).2.2.1 a0 t = some z → cM l E yX7_readSingle cX7_readSingle 2 (some .boolean) (rmS_readEither D) [.ref (r 303), iv a0] (gW E r shH t) (gqI E (gW E r shH) z)) ∧ (∀ (t : St) (z : Int × St), (rec_readEither N D).2.2.2.1 t = some z → cM l E yX7_readOne cX7_readOne 4 (some .boolean) (rmS_readEither D) [.ref (r 303)] (gW E r shH t) (gqI E (gW E r shH) z)) ∧ (∀ (t : St) (z : Int × St), (rec_readEither N D).2.2.2.2.1 t = some z → cM l E yX7_readTest cX7_readTest 1 (some .boolean) (rmS_readEither D) [.ref (r 303)] (gW E r shH t) (gqI E (gW E r shH) z)) ∧ (∀ (a0 : Int) (t : St) (z : Int × St), (rec_readEither N D).2.2.2.2.2.1 a0 t = some z → cM l E yX7_readNot cX7_readNot 2 (some .boolean) (rmS_readEither D) [.ref (r 303), iv a0] (gW E r shH t) (gqI E (gW E r shH) z)) ∧ (∀ (a0 : Int) (t : St) (z : Int × St), (rec_readEither N D).2.2.2.2.2.2.1 a0 t = some z → cM l E yX7_readGroup cX7_readGroup 2 (some .boolean) (rmS_readEither D) [.ref (r 303), iv a0] (gW E r shH t) (gqI E (gW E r shH) z)) ∧ (∀ (t : St) (z : Int × St), (rec_readEither N D).2.2.2.2.2.2.2 t = some z → cM l E yX7_readForms cX7_readForms 2 (some .boolean) (rmS_readEither D) [.ref (r 303)] (gW E r shH t) (gqI E (gW E r shH) z)) := by
  intro D
  induction D with
  | zero => exact ⟨fun _ _ _ h => (by cases h), fun _ _ _ h => (by cases h), fun _ _ _ h => (by cases h), fun _ _ h => (by cases h), fun _ _ h => (by cases h), fun _ _ _ h => (by cases h), fun _ _ _ h => (by cases h), fun _ _ h => (by cases h)⟩
  | succ D ih => exact ⟨fun a0 t z h => cpo_X7_readEither l E r N D _ ih.2.1 a0 t z h, fun a0 t z h => cpo_X7_readBoth l E r N D _ ih.2.2.1 a0 t z h, fun a0 t z h => cpo_X7_readSingle l E r N D _ _ ih.2.2.2.2.1 ih.2.2.2.1 a0 t z h, fun t z h => cpo_X7_readOne l E r N D _ _ ih.2.2.2.2.2.1 ih.2.2.2.2.2.2.1 t z h, fun t z h => cpo_X7_readTest l E r N D _ _ _ _ ih.2.2.2.2.2.1 ih.2.2.2.2.2.2.1 ih.1 ih.2.2.2.2.2.2.2 t z h, fun a0 t z h => cpo_X7_readNot l E r N D _ ih.2.2.1 a0 t z h, fun a0 t z h => cpo_X7_readGroup l E r N D _ ih.1 a0 t z h, fun t z h => cpo_X7_readForms l E r N D _ ih.1 t z h⟩
def f_X7_readEither (N : Nat) (a0 : Int) (t : St) : Option (Int × St) := (rec_readEither N 200).1 a0 t
abbrev rm_f_X7_readEither : Room := { frames := 202, cells := 0, slots := 0, locals := 12045 }
theorem cp_X7_readEither (l : Launch) (E : cE) (r : Nat → Nat) (N : Nat) (a0 : Int) (t : St) (z : Int × St) (h : f_X7_readEither N a0 t = some z) : cM l E yX7_readEither cX7_readEither 3 (some .boolean) rm_f_X7_readEither [.ref (r 303), iv a0] (gW E r shH t) (gqI E (gW E r shH) z) := (rec_readEither_ok l E r N 200).1 a0 t z h
def f_X7_readBoth (N : Nat) (a0 : Int) (t : St) : Option (Int × St) := (rec_readEither N 200).2.1 a0 t
abbrev rm_f_X7_readBoth : Room := { frames := 202, cells := 0, slots := 0, locals := 12045 }
theorem cp_X7_readBoth (l : Launch) (E : cE) (r : Nat → Nat) (N : Nat) (a0 : Int) (t : St) (z : Int × St) (h : f_X7_readBoth N a0 t = some z) : cM l E yX7_readBoth cX7_readBoth 3 (some .boolean) rm_f_X7_readBoth [.ref (r 303), iv a0] (gW E r shH t) (gqI E (gW E r shH) z) := (rec_readEither_ok l E r N 200).2.1 a0 t z h
def f_X7_readSingle (N : Nat) (a0 : Int) (t : St) : Option (Int × St) := (rec_readEither N 200).2.2.1 a0 t
abbrev rm_f_X7_readSingle : Room := { frames := 202, cells := 0, slots := 0, locals := 12045 }
theorem cp_X7_readSingle (l : Launch) (E : cE) (r : Nat → Nat) (N : Nat) (a0 : Int) (t : St) (z : Int × St) (h : f_X7_readSingle N a0 t = some z) : cM l E yX7_readSingle cX7_readSingle 2 (some .boolean) rm_f_X7_readSingle [.ref (r 303), iv a0] (gW E r shH t) (gqI E (gW E r shH) z) := (rec_readEither_ok l E r N 200).2.2.1 a0 t z h
def f_X7_readOne (N : Nat) (t : St) : Option (Int × St) := (rec_readEither N 200).2.2.2.1 t
abbrev rm_f_X7_readOne : Room := { frames := 202, cells := 0, slots := 0, locals := 12045 }
theorem cp_X7_readOne (l : Launch) (E : cE) (r : Nat → Nat) (N : Nat) (t : St) (z : Int × St) (h : f_X7_readOne N t = some z) : cM l E yX7_readOne cX7_readOne 4 (some .boolean) rm_f_X7_readOne [.ref (r 303)] (gW E r shH t) (gqI E (gW E r shH) z) := (rec_readEither_ok l E r N 200).2.2.2.1 t z h
def f_X7_readTest (N : Nat) (t : St) : Option (Int × St) := (rec_readEither N 200).2.2.2.2.1 t
abbrev rm_f_X7_readTest : Room := { frames := 202, cells := 0, slots := 0, locals := 12045 }
theorem cp_X7_readTest (l : Launch) (E : cE) (r : Nat → Nat) (N : Nat) (t : St) (z : Int × St) (h : f_X7_readTest N t = some z) : cM l E yX7_readTest cX7_readTest 1 (some .boolean) rm_f_X7_readTest [.ref (r 303)] (gW E r shH t) (gqI E (gW E r shH) z) := (rec_readEither_ok l E r N 200).2.2.2.2.1 t z h
def f_X7_readNot (N : Nat) (a0 : Int) (t : St) : Option (Int × St) := (rec_readEither N 200).2.2.2.2.2.1 a0 t
abbrev rm_f_X7_readNot : Room := { frames := 202, cells := 0, slots := 0, locals := 12045 }
theorem cp_X7_readNot (l : Launch) (E : cE) (r : Nat → Nat) (N : Nat) (a0 : Int) (t : St) (z : Int × St) (h : f_X7_readNot N a0 t = some z) : cM l E yX7_readNot cX7_readNot 2 (some .boolean) rm_f_X7_readNot [.ref (r 303), iv a0] (gW E r shH t) (gqI E (gW E r shH) z) := (rec_readEither_ok l E r N 200).2.2.2.2.2.1 a0 t z h
def f_X7_readGroup (N : Nat) (a0 : Int) (t : St) : Option (Int × St) := (rec_readEither N 200).2.2.2.2.2.2.1 a0 t
abbrev rm_f_X7_readGroup : Room := { frames := 202, cells := 0, slots := 0, locals := 12045 }
theorem cp_X7_readGroup (l : Launch) (E : cE) (r : Nat → Nat) (N : Nat) (a0 : Int) (t : St) (z : Int × St) (h : f_X7_readGroup N a0 t = some z) : cM l E yX7_readGroup cX7_readGroup 2 (some .boolean) rm_f_X7_readGroup [.ref (r 303), iv a0] (gW E r shH t) (gqI E (gW E r shH) z) := (rec_readEither_ok l E r N 200).2.2.2.2.2.2.1 a0 t z h
def f_X7_readForms (N : Nat) (t : St) : Option (Int × St) := (rec_readEither N 200).2.2.2.2.2.2.2 t
abbrev rm_f_X7_readForms : Room := { frames := 202, cells := 0, slots := 0, locals := 12045 }
theorem cp_X7_readForms (l : Launch) (E : cE) (r : Nat → Nat) (N : Nat) (t : St) (z : Int × St) (h : f_X7_readForms N t = some z) : cM l E yX7_readForms cX7_readForms 2 (some .boolean) rm_f_X7_readForms [.ref (r 303)] (gW E r shH t) (gqI E (gW E r shH) z) := (rec_readEither_ok l E r N 200).2.2.2.2.2.2.2 t z h
theorem dX7_readStep_0 : decode cX7_readStep 0 = .ok (.aload_n 0, 1) := by decide +kernel
theorem dX7_readStep_1 : decode cX7_readStep 1 = .ok (.iconst 0, 1) := by decide +kernel
theorem dX7_readStep_2 : decode cX7_readStep 2 = .ok (.putfield 205, 3) := by decide +kernel
theorem dX7_readStep_5 : decode cX7_readStep 5 = .ok (.iconst 0, 1) := by decide +kernel
theorem dX7_readStep_6 : decode cX7_readStep 6 = .ok (.istore_n 1, 1) := by decide +kernel
theorem dX7_readStep_7 : decode cX7_readStep 7 = .ok (.iload_n 1, 1) := by decide +kernel
theorem dX7_readStep_8 : decode cX7_readStep 8 = .ok (.iconst 4, 1) := by decide +kernel
theorem dX7_readStep_9 : decode cX7_readStep 9 = .ok (.if_icmp .ge 112, 3) := by decide +kernel
theorem dX7_readStep_12 : decode cX7_readStep 12 = .ok (.aload_n 0, 1) := by decide +kernel
theorem dX7_readStep_13 : decode cX7_readStep 13 = .ok (.iconst 0, 1) := by decide +kernel
theorem dX7_readStep_14 : decode cX7_readStep 14 = .ok (.invokevirtual 240, 3) := by decide +kernel
theorem dX7_readStep_17 : decode cX7_readStep 17 = .ok (.ifCond .eq 17, 3) := by decide +kernel
theorem dX7_readStep_20 : decode cX7_readStep 20 = .ok (.aload_n 0, 1) := by decide +kernel
theorem dX7_readStep_21 : decode cX7_readStep 21 = .ok (.aload_n 0, 1) := by decide +kernel
theorem dX7_readStep_22 : decode cX7_readStep 22 = .ok (.getfield 19, 3) := by decide +kernel
theorem dX7_readStep_25 : decode cX7_readStep 25 = .ok (.getfield 110, 3) := by decide +kernel
theorem dX7_readStep_28 : decode cX7_readStep 28 = .ok (.invokevirtual 164, 3) := by decide +kernel
theorem dX7_readStep_31 : decode cX7_readStep 31 = .ok (.ifCond .ne 5, 3) := by decide +kernel
theorem dX7_readStep_34 : decode cX7_readStep 34 = .ok (.iconst 0, 1) := by decide +kernel
theorem dX7_readStep_35 : decode cX7_readStep 35 = .ok (.ireturn, 1) := by decide +kernel
theorem dX7_readStep_36 : decode cX7_readStep 36 = .ok (.aload_n 0, 1) := by decide +kernel
theorem dX7_readStep_37 : decode cX7_readStep 37 = .ok (.getfield 19, 3) := by decide +kernel
theorem dX7_readStep_40 : decode cX7_readStep 40 = .ok (.bipush 17, 2) := by decide +kernel
theorem dX7_readStep_42 : decode cX7_readStep 42 = .ok (.aload_n 0, 1) := by decide +kernel
theorem dX7_readStep_43 : decode cX7_readStep 43 = .ok (.getfield 137, 3) := by decide +kernel
theorem dX7_readStep_46 : decode cX7_readStep 46 = .ok (.invokevirtual 199, 3) := by decide +kernel
theorem dX7_readStep_49 : decode cX7_readStep 49 = .ok (.pop, 1) := by decide +kernel
theorem dX7_readStep_50 : decode cX7_readStep 50 = .ok (.aload_n 0, 1) := by decide +kernel
theorem dX7_readStep_51 : decode cX7_readStep 51 = .ok (.dup, 1) := by decide +kernel
theorem dX7_readStep_52 : decode cX7_readStep 52 = .ok (.getfield 205, 3) := by decide +kernel
theorem dX7_readStep_55 : decode cX7_readStep 55 = .ok (.aload_n 0, 1) := by decide +kernel
theorem dX7_readStep_56 : decode cX7_readStep 56 = .ok (.getfield 19, 3) := by decide +kernel
theorem dX7_readStep_59 : decode cX7_readStep 59 = .ok (.getfield 178, 3) := by decide +kernel
theorem dX7_readStep_62 : decode cX7_readStep 62 = .ok (.aload_n 0, 1) := by decide +kernel
theorem dX7_readStep_63 : decode cX7_readStep 63 = .ok (.getfield 137, 3) := by decide +kernel
theorem dX7_readStep_66 : decode cX7_readStep 66 = .ok (.iaload, 1) := by decide +kernel
theorem dX7_readStep_67 : decode cX7_readStep 67 = .ok (.iadd, 1) := by decide +kernel
theorem dX7_readStep_68 : decode cX7_readStep 68 = .ok (.putfield 205, 3) := by decide +kernel
theorem dX7_readStep_71 : decode cX7_readStep 71 = .ok (.aload_n 0, 1) := by decide +kernel
theorem dX7_readStep_72 : decode cX7_readStep 72 = .ok (.getfield 29, 3) := by decide +kernel
theorem dX7_readStep_75 : decode cX7_readStep 75 = .ok (.bipush 47, 2) := by decide +kernel
theorem dX7_readStep_77 : decode cX7_readStep 77 = .ok (.if_icmp .eq 16, 3) := by decide +kernel
theorem dX7_readStep_80 : decode cX7_readStep 80 = .ok (.aload_n 0, 1) := by decide +kernel
theorem dX7_readStep_81 : decode cX7_readStep 81 = .ok (.getfield 19, 3) := by decide +kernel
theorem dX7_readStep_84 : decode cX7_readStep 84 = .ok (.bipush 18, 2) := by decide +kernel
theorem dX7_readStep_86 : decode cX7_readStep 86 = .ok (.iconst 0, 1) := by decide +kernel
theorem dX7_readStep_87 : decode cX7_readStep 87 = .ok (.invokevirtual 199, 3) := by decide +kernel
theorem dX7_readStep_90 : decode cX7_readStep 90 = .ok (.pop, 1) := by decide +kernel
theorem dX7_readStep_91 : decode cX7_readStep 91 = .ok (.iconst 1, 1) := by decide +kernel
theorem dX7_readStep_92 : decode cX7_readStep 92 = .ok (.ireturn, 1) := by decide +kernel
theorem dX7_readStep_93 : decode cX7_readStep 93 = .ok (.iload_n 1, 1) := by decide +kernel
theorem dX7_readStep_94 : decode cX7_readStep 94 = .ok (.iconst 1, 1) := by decide +kernel
theorem dX7_readStep_95 : decode cX7_readStep 95 = .ok (.iadd, 1) := by decide +kernel
theorem dX7_readStep_96 : decode cX7_readStep 96 = .ok (.iconst 4, 1) := by decide +kernel
theorem dX7_readStep_97 : decode cX7_readStep 97 = .ok (.if_icmp .ne 9, 3) := by decide +kernel
theorem dX7_readStep_100 : decode cX7_readStep 100 = .ok (.aload_n 0, 1) := by decide +kernel
theorem dX7_readStep_101 : decode cX7_readStep 101 = .ok (.iconst 5, 1) := by decide +kernel
theorem dX7_readStep_102 : decode cX7_readStep 102 = .ok (.invokevirtual 48, 3) := by decide +kernel
theorem dX7_readStep_105 : decode cX7_readStep 105 = .ok (.ireturn, 1) := by decide +kernel
theorem dX7_readStep_106 : decode cX7_readStep 106 = .ok (.aload_n 0, 1) := by decide +kernel
theorem dX7_readStep_107 : decode cX7_readStep 107 = .ok (.invokevirtual 127, 3) := by decide +kernel
theorem dX7_readStep_110 : decode cX7_readStep 110 = .ok (.ifCond .ne 5, 3) := by decide +kernel
theorem dX7_readStep_113 : decode cX7_readStep 113 = .ok (.iconst 0, 1) := by decide +kernel
theorem dX7_readStep_114 : decode cX7_readStep 114 = .ok (.ireturn, 1) := by decide +kernel
theorem dX7_readStep_115 : decode cX7_readStep 115 = .ok (.iinc 1 1, 3) := by decide +kernel
theorem dX7_readStep_118 : decode cX7_readStep 118 = .ok (.goto (-111), 3) := by decide +kernel
theorem dX7_readStep_121 : decode cX7_readStep 121 = .ok (.iconst 0, 1) := by decide +kernel
theorem dX7_readStep_122 : decode cX7_readStep 122 = .ok (.ireturn, 1) := by decide +kernel
abbrev rm_f_X7_readStep : Room := { frames := 203, cells := 0, slots := 0, locals := 12067 }
def f_X7_readStep_L7 (N : Nat) (K4 : (St → Option (Int × St))) (K5 : (St → Option (Int × St))) (K6 : (St → Option (Int × St))) : Nat → Int → St → Option (Int × St)
  | 0, _, _ => none
  | n9 + 1, x2, t3 =>
    cmpI x2 4 (if x2 < 4 then (bdI (f_X7_readEither N 0 t3) fun v8 t7 =>
    cmpI v8 0 (if v8 = 0 then (boI 0 (some (0, t7)))
    else (bdI (f_X7_takeKnown N 1 t7) fun v10 t9 =>
    cmpI v10 0 (if v10 = 0 then (boI 0 (some (0, t9)))
    else (lt1 (t9.1 303 9) fun v11 =>
    bdI (f_X0_put N 17 v11 t9) fun v13 t12 =>
    lt1 (t12.1 303 11) fun v14 =>
    lt1 (t12.1 303 9) fun v15 =>
    ixI v15 100 (lt1 (t12.1 356 v15.toNat) fun v16 =>
    lt1 (pI t12 303 11 (v14 + v16)) fun t17 =>
    lt1 (t17.1 303 3) fun v18 =>
    cmpI v18 47 (if v18 = 47 then (cmpI (x2 + 1) 4 (if (x2 + 1) = 4 then (K5 t17)
    else (bdI (f_X7_pass N t17) fun v20 t19 =>
    cmpI v20 0 (if v20 = 0 then (boI 0 (some (0, t19)))
    else (f_X7_readStep_L7 N K4 K5 K6 n9 (x2 + 1) t19)))))
    else (K4 t17))))))))
    else (K6 t3))
def f_X7_readStep (N : Nat) (t : St) : Option (Int × St) :=
    lt1 (pI t 303 11 0) fun t1 =>
    f_X7_readStep_L7 N (fun (t21 : St) => bdI (f_X0_put N 18 0 t21) fun v23 t22 =>
    boI 1 (some (1, t22))) (fun (t24 : St) => bdI (f_X7_wrong N 5 t24) fun v26 t25 =>
    boI v26 (some (v26, t25))) (fun (t27 : St) => boI 0 (some (0, t27))) N 0 t1
set_option maxHeartbeats 4000000 in
set_option maxRecDepth 100000 in
theorem t_f_X7_readStep_L7 {p : Program} {l : Launch} {e : Env} {s : State} {m : MethodId} {args : Array Value} {below : List Frame} {meth : Method} {c : Code} {E : cE} {A : Nat → Prop} {r : Nat → Nat} {mc ms : Nat} {z : Int × St} {N : Nat} {K4 : (St → Option (Int × St))} {K5 : (St → Option (Int × St))} {K6 : (St → Option (Int × St))} (X : gX p s m meth c cX7_readStep 2 (some .boolean) yX7_readStep args E A) (hK4 : ∀ (t9 : St), K4 t9 = some z → gP p l e rm_f_X7_readStep s m args below meth c E A 2 (MQ below ((gqI E (gW E r shH) z) A) args s mc ms A) (gW E r shH) 80 [(0, .ref (r 303))] [] t9) (hK5 : ∀ (t9 : St), K5 t9 = some z → gP p l e rm_f_X7_readStep s m args below meth c E A 2 (MQ below ((gqI E (gW E r shH) z) A) args s mc ms A) (gW E r shH) 100 [(0, .ref (r 303))] [] t9) (hK6 : ∀ (t9 : St), K6 t9 = some z → gP p l e rm_f_X7_readStep s m args below meth c E A 2 (MQ below ((gqI E (gW E r shH) z) A) args s mc ms A) (gW E r shH) 121 [] [] t9) : ∀ (n9 : Nat) (x2 : Int) (t3 : St), f_X7_readStep_L7 N K4 K5 K6 n9 x2 t3 = some z → gP p l e rm_f_X7_readStep s m args below meth c E A 2 (MQ below ((gqI E (gW E r shH) z) A) args s mc ms A) (gW E r shH) 7 [(0, .ref (r 303)), (1, iv x2)] [] t3 := by
  intro n9
  induction n9 with
  | zero => intro x2 t3 h; cases h
  | succ n9 ih =>
    intro x2 t3 h
    unfold f_X7_readStep_L7 at h
    refine g_iload_n X dX7_readStep_7 1 rfl ?_
    refine g_iconst X dX7_readStep_8 ?_
    refine g_icmp_ge (tgt := 121) X dX7_readStep_9 (by decide) h (fun h => ?_) (fun h => ?_)
    · exact g_sub (lv' := []) [] rfl (hK6 t3 h)
    · refine g_aload_n X dX7_readStep_12 0 rfl ?_
      refine g_iconst X dX7_readStep_13 ?_
      refine g_callOI (rest := []) X (fun u9 h9 => cp_X7_readEither l E r N 0 t3 u9 h9) yy_X7_readEither yi_X7_readEither wdM_RX7_240 ⟨_, _, oH_303⟩ rfl rfl rfl (Nat.le_of_ble_eq_true rfl) dX7_readStep_14 ⟨by decide, by decide⟩ ⟨rfl, rfl⟩ h (fun v8 t7 h => ?_)
      refine g_if_eq (tgt := 34) X dX7_readStep_17 (by decide) h (fun h => ?_) (fun h => ?_)
      · refine g_iconst X dX7_readStep_34 ?_
        exact g_zret X h dX7_readStep_35
      · refine g_aload_n X dX7_readStep_20 0 rfl ?_
        refine g_aload_n X dX7_readStep_21 0 rfl ?_
        refine g_getR X fH_X7_19_303 rfl dX7_readStep_22 ?_
        refine g_getR X fH_X7_110_302 rfl dX7_readStep_25 ?_
        refine g_callOI (rest := []) X (fun u9 h9 => cp_X7_takeKnown l E r N 1 (by decide) t7 u9 h9) yy_X7_takeKnown yi_X7_takeKnown wdM_RX7_164 ⟨_, _, oH_303⟩ rfl rfl rfl (Nat.le_of_ble_eq_true rfl) dX7_readStep_28 ⟨by decide, by decide⟩ ⟨rfl, rfl⟩ h (fun v10 t9 h => ?_)
        refine g_if_ne (tgt := 36) X dX7_readStep_31 (by decide) h (fun h => ?_) (fun h => ?_)
        · refine g_aload_n X dX7_readStep_36 0 rfl ?_
          refine g_getR X fH_X7_19_303 rfl dX7_readStep_37 ?_
          refine g_bipush X dX7_readStep_40 (by decide) ?_
          refine g_aload_n X dX7_readStep_42 0 rfl ?_
          refine g_getI X fH_X7_137_303 rfl dX7_readStep_43 h (fun v11 h => ?_)
          refine g_callOI (rest := []) X (fun u9 h9 => cp_X0_put l E r N 17 v11 t9 u9 h9) yy_X0_put yi_X0_put wdM_RX7_199 ⟨_, _, oH_302⟩ rfl rfl rfl (Nat.le_of_ble_eq_true rfl) dX7_readStep_46 ⟨by decide, by decide⟩ ⟨rfl, rfl⟩ h (fun v13 t12 h => ?_)
          refine g_pop X rfl dX7_readStep_49 ?_
          refine g_aload_n X dX7_readStep_50 0 rfl ?_
          refine g_dup X rfl dX7_readStep_51 ?_
          refine g_getI X fH_X7_205_303 rfl dX7_readStep_52 h (fun v14 h => ?_)
          refine g_aload_n X dX7_readStep_55 0 rfl ?_
          refine g_getR X fH_X7_19_303 rfl dX7_readStep_56 ?_
          refine g_getR X fH_X7_178_302 rfl dX7_readStep_59 ?_
          refine g_aload_n X dX7_readStep_62 0 rfl ?_
          refine g_getI X fH_X7_137_303 rfl dX7_readStep_63 h (fun v15 h => ?_)
          refine g_iald X aH_356 dX7_readStep_66 h (fun v16 h => ?_)
          refine g_iadd X dX7_readStep_67 ?_
          refine g_putI X fH_X7_205_303w rfl dX7_readStep_68 h (fun t17 h => ?_)
          refine g_aload_n X dX7_readStep_71 0 rfl ?_
          refine g_getI X fH_X7_29_303 rfl dX7_readStep_72 h (fun v18 h => ?_)
          refine g_bipush X dX7_readStep_75 (by decide) ?_
          refine g_icmp_eq (tgt := 93) X dX7_readStep_77 (by decide) h (fun h => ?_) (fun h => ?_)
          · refine g_iload_n X dX7_readStep_93 1 rfl ?_
            refine g_iconst X dX7_readStep_94 ?_
            refine g_iadd X dX7_readStep_95 ?_
            refine g_iconst X dX7_readStep_96 ?_
            refine g_icmp_ne (tgt := 106) X dX7_readStep_97 (by decide) h (fun h => ?_) (fun h => ?_)
            · refine g_aload_n X dX7_readStep_106 0 rfl ?_
              refine g_callOI (rest := []) X (fun u9 h9 => cp_X7_pass l E r N t17 u9 h9) yy_X7_pass yi_X7_pass wdM_RX7_127 ⟨_, _, oH_303⟩ rfl rfl rfl (Nat.le_of_ble_eq_true rfl) dX7_readStep_107 ⟨by decide, by decide⟩ ⟨rfl, rfl⟩ h (fun v20 t19 h => ?_)
              refine g_if_ne (tgt := 115) X dX7_readStep_110 (by decide) h (fun h => ?_) (fun h => ?_)
              · refine g_iinc (lv' := [(1, iv (x2 + 1)), (0, .ref (r 303))]) X dX7_readStep_115 (k := 1) rfl (by decide) rfl ?_
                refine g_goto (tgt := 7) X dX7_readStep_118 (by decide) ?_
                exact g_sub (lv' := [(0, .ref (r 303)), (1, iv (x2 + 1))]) [1, 0] rfl (ih (x2 + 1) t19 h)
              · refine g_iconst X dX7_readStep_113 ?_
                exact g_zret X h dX7_readStep_114
            · exact g_sub (lv' := [(0, .ref (r 303))]) [0] rfl (hK5 t17 h)
          · exact g_sub (lv' := [(0, .ref (r 303))]) [0] rfl (hK4 t17 h)
        · refine g_iconst X dX7_readStep_34 ?_
          exact g_zret X h dX7_readStep_35
set_option maxHeartbeats 4000000 in
set_option maxRecDepth 100000 in
theorem b_f_X7_readStep {p : Program} {l : Launch} {e : Env} {s : State} {m : MethodId} {args : Array Value} {below : List Frame} {meth : Method} {c : Code} {E : cE} {A : Nat → Prop} {r : Nat → Nat} {mc ms : Nat} {z : Int × St} {N : Nat} {t : St} (X : gX p s m meth c cX7_readStep 2 (some .boolean) yX7_readStep args E A) (h : f_X7_readStep N t = some z) : gP p l e rm_f_X7_readStep s m args below meth c E A 2 (MQ below ((gqI E (gW E r shH) z) A) args s mc ms A) (gW E r shH) 0 [(0, .ref (r 303))] [] t := by
  unfold f_X7_readStep at h
  refine g_aload_n X dX7_readStep_0 0 rfl ?_
  refine g_iconst X dX7_readStep_1 ?_
  refine g_putI X fH_X7_205_303w rfl dX7_readStep_2 h (fun t1 h => ?_)
  refine g_iconst X dX7_readStep_5 ?_
  refine g_istore_n (lv' := [(1, iv 0), (0, .ref (r 303))]) X dX7_readStep_6 rfl (by decide) rfl ?_
  refine g_sub (lv' := [(0, .ref (r 303)), (1, iv 0)]) [1, 0] rfl (t_f_X7_readStep_L7 X (fun t21 h => ?_) (fun t24 h => ?_) (fun t27 h => ?_) N 0 t1 h)
  · refine g_aload_n X dX7_readStep_80 0 rfl ?_
    refine g_getR X fH_X7_19_303 rfl dX7_readStep_81 ?_
    refine g_bipush X dX7_readStep_84 (by decide) ?_
    refine g_iconst X dX7_readStep_86 ?_
    refine g_callOI (rest := []) X (fun u9 h9 => cp_X0_put l E r N 18 0 t21 u9 h9) yy_X0_put yi_X0_put wdM_RX7_199 ⟨_, _, oH_302⟩ rfl rfl rfl (Nat.le_of_ble_eq_true rfl) dX7_readStep_87 ⟨by decide, by decide⟩ ⟨rfl, rfl⟩ h (fun v23 t22 h => ?_)
    refine g_pop X rfl dX7_readStep_90 ?_
    refine g_iconst X dX7_readStep_91 ?_
    exact g_zret X h dX7_readStep_92
  · refine g_aload_n X dX7_readStep_100 0 rfl ?_
    refine g_iconst X dX7_readStep_101 ?_
    refine g_callOI (rest := []) X (fun u9 h9 => cp_X7_wrong l E r N 5 t24 u9 h9) yy_X7_wrong yi_X7_wrong wdM_RX7_48 ⟨_, _, oH_303⟩ rfl rfl rfl (Nat.le_of_ble_eq_true rfl) dX7_readStep_102 ⟨by decide, by decide⟩ ⟨rfl, rfl⟩ h (fun v26 t25 h => ?_)
    exact g_zret X h dX7_readStep_105
  · refine g_iconst X dX7_readStep_121 ?_
    exact g_zret X h dX7_readStep_122
set_option maxHeartbeats 4000000 in
set_option maxRecDepth 100000 in
theorem cp_X7_readStep (l : Launch) (E : cE) (r : Nat → Nat) (N : Nat) (t : St) (z : Int × St) (h : f_X7_readStep N t = some z) : cM l E yX7_readStep cX7_readStep 2 (some .boolean) rm_f_X7_readStep [.ref (r 303)] (gW E r shH t) (gqI E (gW E r shH) z) := by
  refine g_of (w := gW E r shH) (by decide) (Nat.le_of_ble_eq_true rfl) ?_
  intro p e s m below meth c A X
  exact g_sub (lv' := [(0, .ref (r 303))]) [0] rfl (b_f_X7_readStep X h)
theorem yy_X7_readStep : cY yX7_readStep cX7_readStep 2 (some .boolean) 0 := ⟨wdK_X7_readStep, wdZ_RX7, by decide +kernel⟩
theorem yi_X7_readStep : cYi yX7_readStep := ⟨wdN_X7_readStep, wdS_X7_readStep⟩
