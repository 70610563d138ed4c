abbrev rmS_readCondition (D : Nat) : Room := { frames := D + 104, cells := 0, slots := 0, locals := 60 * D + 6110 }
theorem yy_X12_readCondition : cY yX12_readCondition cX12_readCondition 5 (some .boolean) 1 := ⟨wdK_X12_readCondition, wdZ_RX12, by decide +kernel⟩
theorem yi_X12_readCondition : cYi yX12_readCondition := ⟨wdN_X12_readCondition, wdS_X12_readCondition⟩
theorem yy_X12_readConditionAnd : cY yX12_readConditionAnd cX12_readConditionAnd 5 (some .boolean) 1 := ⟨wdK_X12_readConditionAnd, wdZ_RX12, by decide +kernel⟩
theorem yi_X12_readConditionAnd : cYi yX12_readConditionAnd := ⟨wdN_X12_readConditionAnd, wdS_X12_readConditionAnd⟩
theorem yy_X12_readConditionOne : cY yX12_readConditionOne cX12_readConditionOne 5 (some .boolean) 1 := ⟨wdK_X12_readConditionOne, wdZ_RX12, by decide +kernel⟩
theorem yi_X12_readConditionOne : cYi yX12_readConditionOne := ⟨wdN_X12_readConditionOne, wdS_X12_readConditionOne⟩
theorem dX12_readCondition_0 : decode cX12_readCondition 0 = .ok (.aload_n 0, 1) := by decide +kernel
theorem dX12_readCondition_1 : decode cX12_readCondition 1 = .ok (.lload_n 1, 1) := by decide +kernel
theorem dX12_readCondition_2 : decode cX12_readCondition 2 = .ok (.invokevirtual 516, 3) := by decide +kernel
theorem dX12_readCondition_5 : decode cX12_readCondition 5 = .ok (.istore_n 3, 1) := by decide +kernel
theorem dX12_readCondition_6 : decode cX12_readCondition 6 = .ok (.aload_n 0, 1) := by decide +kernel
theorem dX12_readCondition_7 : decode cX12_readCondition 7 = .ok (.getfield 65, 3) := by decide +kernel
theorem dX12_readCondition_10 : decode cX12_readCondition 10 = .ok (.aload_n 0, 1) := by decide +kernel
theorem dX12_readCondition_11 : decode cX12_readCondition 11 = .ok (.getfield 454, 3) := by decide +kernel
theorem dX12_readCondition_14 : decode cX12_readCondition 14 = .ok (.iaload, 1) := by decide +kernel
theorem dX12_readCondition_15 : decode cX12_readCondition 15 = .ok (.bipush 24, 2) := by decide +kernel
theorem dX12_readCondition_17 : decode cX12_readCondition 17 = .ok (.if_icmp .ne 38, 3) := by decide +kernel
theorem dX12_readCondition_20 : decode cX12_readCondition 20 = .ok (.aload_n 0, 1) := by decide +kernel
theorem dX12_readCondition_21 : decode cX12_readCondition 21 = .ok (.dup, 1) := by decide +kernel
theorem dX12_readCondition_22 : decode cX12_readCondition 22 = .ok (.getfield 454, 3) := by decide +kernel
theorem dX12_readCondition_25 : decode cX12_readCondition 25 = .ok (.iconst 1, 1) := by decide +kernel
theorem dX12_readCondition_26 : decode cX12_readCondition 26 = .ok (.iadd, 1) := by decide +kernel
theorem dX12_readCondition_27 : decode cX12_readCondition 27 = .ok (.putfield 454, 3) := by decide +kernel
theorem dX12_readCondition_30 : decode cX12_readCondition 30 = .ok (.aload_n 0, 1) := by decide +kernel
theorem dX12_readCondition_31 : decode cX12_readCondition 31 = .ok (.lload_n 1, 1) := by decide +kernel
theorem dX12_readCondition_32 : decode cX12_readCondition 32 = .ok (.invokevirtual 516, 3) := by decide +kernel
theorem dX12_readCondition_35 : decode cX12_readCondition 35 = .ok (.istore 4, 2) := by decide +kernel
theorem dX12_readCondition_37 : decode cX12_readCondition 37 = .ok (.iload_n 3, 1) := by decide +kernel
theorem dX12_readCondition_38 : decode cX12_readCondition 38 = .ok (.ifCond .ne 8, 3) := by decide +kernel
theorem dX12_readCondition_41 : decode cX12_readCondition 41 = .ok (.iload 4, 2) := by decide +kernel
theorem dX12_readCondition_43 : decode cX12_readCondition 43 = .ok (.ifCond .eq 7, 3) := by decide +kernel
theorem dX12_readCondition_46 : decode cX12_readCondition 46 = .ok (.iconst 1, 1) := by decide +kernel
theorem dX12_readCondition_47 : decode cX12_readCondition 47 = .ok (.goto 4, 3) := by decide +kernel
theorem dX12_readCondition_50 : decode cX12_readCondition 50 = .ok (.iconst 0, 1) := by decide +kernel
theorem dX12_readCondition_51 : decode cX12_readCondition 51 = .ok (.istore_n 3, 1) := by decide +kernel
theorem dX12_readCondition_52 : decode cX12_readCondition 52 = .ok (.goto (-46), 3) := by decide +kernel
theorem dX12_readCondition_55 : decode cX12_readCondition 55 = .ok (.iload_n 3, 1) := by decide +kernel
theorem dX12_readCondition_56 : decode cX12_readCondition 56 = .ok (.ireturn, 1) := by decide +kernel
def o_X12_readCondition_L6 (fo_readConditionAnd : (Int64 → St → Option (Int × St))) (K6 : (Int → St → Option (Int × St))) (y3 : Int64) : Nat → Int → St → Option (Int × St)
  | 0, _, _ => none
  | n9 + 1, x4, t5 =>
    lt1 (t5.1 200 114) fun v7 =>
    ixI v7 10100 (lt1 (t5.1 31 v7.toNat) fun v8 =>
    cmpI v8 24 (if v8 = 24 then (lt1 (t5.1 200 114) fun v9 =>
    lt1 (pI t5 200 114 (v9 + 1)) fun t10 =>
    bdI (fo_readConditionAnd y3 t10) fun v12 t11 =>
    jn1 (fun (j13 : Int) (t14 : St) => o_X12_readCondition_L6 fo_readConditionAnd K6 y3 n9 j13 t14) fun J15 =>
    jn1 (fun (t16 : St) => J15 1 t16) fun J17 =>
    cmpI x4 0 (if x4 = 0 then (cmpI v12 0 (if v12 = 0 then (J15 0 t11)
    else (J17 t11)))
    else (J17 t11)))
    else (K6 x4 t5)))
def o_X12_readCondition (N : Nat) (fo_readConditionAnd : (Int64 → St → Option (Int × St))) (a0 : Int64) (t : St) : Option (Int × St) :=
    bdI (fo_readConditionAnd a0 t) fun v2 t1 =>
    o_X12_readCondition_L6 fo_readConditionAnd (fun (k18 : Int) (t19 : St) => boI k18 (some (k18, t19))) a0 N v2 t1
set_option maxHeartbeats 4000000 in
set_option maxRecDepth 100000 in
theorem t_o_X12_readCondition_L6 {p : Program} {l : Launch} {e : Env} {s : State} {m : MethodId} {args : Array Value} {below : List Frame} {meth : Method} {c : Code} {E : cE} {A : Nat → Prop} {r : Nat → Nat} {mc ms : Nat} {z : Int × St} {D9 : Nat} {fo_readConditionAnd : (Int64 → St → Option (Int × St))} {K6 : (Int → St → Option (Int × St))} {y3 : Int64} (X : gX p s m meth c cX12_readCondition 5 (some .boolean) yX12_readCondition args E A) (ho_readConditionAnd : ∀ (a0 : Int64) (t : St) (z : Int × St), fo_readConditionAnd a0 t = some z → cM l E yX12_readConditionAnd cX12_readConditionAnd 5 (some .boolean) (rmS_readCondition D9) [.ref (r 200), .long a0] (gW E r shM t) (gqI E (gW E r shM) z)) (hK6 : ∀ (q3 : Int) (t9 : St), K6 q3 t9 = some z → gP p l e (rmS_readCondition (D9 + 1)) s m args below meth c E A 5 (MQ below ((gqI E (gW E r shM) z) A) args s mc ms A) (gW E r shM) 55 [(3, iv q3)] [] t9) : ∀ (n9 : Nat) (x4 : Int) (t5 : St), o_X12_readCondition_L6 fo_readConditionAnd K6 y3 n9 x4 t5 = some z → gP p l e (rmS_readCondition (D9 + 1)) s m args below meth c E A 5 (MQ below ((gqI E (gW E r shM) z) A) args s mc ms A) (gW E r shM) 6 [(0, .ref (r 200)), (1, .long y3), (3, iv x4)] [] t5 := by
  intro n9
  induction n9 with
  | zero => intro x4 t5 h; cases h
  | succ n9 ih =>
    intro x4 t5 h
    unfold o_X12_readCondition_L6 at h
    refine g_aload_n X dX12_readCondition_6 0 rfl ?_
    refine g_getR X fM_31 rfl dX12_readCondition_7 ?_
    refine g_aload_n X dX12_readCondition_10 0 rfl ?_
    refine g_getI X fM_114 rfl dX12_readCondition_11 h (fun v7 h => ?_)
    refine g_iald X aM_31 dX12_readCondition_14 h (fun v8 h => ?_)
    refine g_bipush X dX12_readCondition_15 (by decide) ?_
    refine g_icmp_ne (tgt := 55) X dX12_readCondition_17 (by decide) h (fun h => ?_) (fun h => ?_)
    · exact g_sub (lv' := [(3, iv x4)]) [2] rfl (hK6 x4 t5 h)
    · refine g_aload_n X dX12_readCondition_20 0 rfl ?_
      refine g_dup X rfl dX12_readCondition_21 ?_
      refine g_getI X fM_114 rfl dX12_readCondition_22 h (fun v9 h => ?_)
      refine g_iconst X dX12_readCondition_25 ?_
      refine g_iadd X dX12_readCondition_26 ?_
      refine g_putI X fM_114w rfl dX12_readCondition_27 h (fun t10 h => ?_)
      refine g_aload_n X dX12_readCondition_30 0 rfl ?_
      refine g_lload_n X dX12_readCondition_31 1 rfl ?_
      refine g_callI (rest := []) X (fun u9 h9 => ho_readConditionAnd y3 t10 u9 h9) yy_X12_readConditionAnd yi_X12_readConditionAnd wdM_RX12_516 0 12 (gW_at oM) rfl rfl rfl (Nat.le_of_ble_eq_true rfl) dX12_readCondition_32 ⟨by show D9 + 104 + 1 ≤ D9 + 1 + 104; omega, by show 8 + (5 + 11) + (60 * D9 + 6110) ≤ 60 * (D9 + 1) + 6110; omega⟩ ⟨rfl, rfl⟩ h (fun v12 t11 h => ?_)
      refine g_istore (lv' := [(4, iv v12), (0, .ref (r 200)), (1, .long y3), (3, iv x4)]) X dX12_readCondition_35 (by decide) rfl ?_
      refine g_iload_n X dX12_readCondition_37 3 rfl ?_
      refine g_join (J := fun jj => ∀ (j13 : Int) (t14 : St), jj j13 t14 = some z → gP p l e (rmS_readCondition (D9 + 1)) s m args below meth c E A 5 (MQ below ((gqI E (gW E r shM) z) A) args s mc ms A) (gW E r shM) 51 [(0, .ref (r 200)), (1, .long y3)] [iv j13] t14) h (fun j13 t14 h => ?_) (fun J15 hJ15 h => ?_)
      · refine g_istore_n (lv' := [(3, iv j13), (0, .ref (r 200)), (1, .long y3)]) X dX12_readCondition_51 rfl (by decide) rfl ?_
        refine g_goto (tgt := 6) X dX12_readCondition_52 (by decide) ?_
        exact g_sub (lv' := [(0, .ref (r 200)), (1, .long y3), (3, iv j13)]) [1, 2, 0] rfl (ih j13 t14 h)
      refine g_join (J := fun jj => ∀ (t16 : St), jj  t16 = some z → gP p l e (rmS_readCondition (D9 + 1)) s m args below meth c E A 5 (MQ below ((gqI E (gW E r shM) z) A) args s mc ms A) (gW E r shM) 46 [(0, .ref (r 200)), (1, .long y3)] [] t16) h (fun  t16 h => ?_) (fun J17 hJ17 h => ?_)
      · refine g_iconst X dX12_readCondition_46 ?_
        refine g_goto (tgt := 51) X dX12_readCondition_47 (by decide) ?_
        exact g_sub (lv' := [(0, .ref (r 200)), (1, .long y3)]) [0, 1] rfl (hJ15 1 t16 h)
      refine g_if_ne (tgt := 46) X dX12_readCondition_38 (by decide) h (fun h => ?_) (fun h => ?_)
      · exact g_sub (lv' := [(0, .ref (r 200)), (1, .long y3)]) [1, 2] rfl (hJ17 t11 h)
      · refine g_iload X dX12_readCondition_41 0 rfl ?_
        refine g_if_eq (tgt := 50) X dX12_readCondition_43 (by decide) h (fun h => ?_) (fun h => ?_)
        · refine g_iconst X dX12_readCondition_50 ?_
          exact g_sub (lv' := [(0, .ref (r 200)), (1, .long y3)]) [1, 2] rfl (hJ15 0 t11 h)
        · exact g_sub (lv' := [(0, .ref (r 200)), (1, .long y3)]) [1, 2] rfl (hJ17 t11 h)
set_option maxHeartbeats 4000000 in
set_option maxRecDepth 100000 in
theorem b_o_X12_readCondition {p : Program} {l : Launch} {e : Env} {s : State} {m : MethodId} {args : Array Value} {below : List Frame} {meth : Method} {c : Code} {E : cE} {A : Nat → Prop} {r : Nat → Nat} {mc ms : Nat} {z : Int × St} {N : Nat} {D9 : Nat} {fo_readConditionAnd : (Int64 → St → Option (Int × St))} (ho_readConditionAnd : ∀ (a0 : Int64) (t : St) (z : Int × St), fo_readConditionAnd a0 t = some z → cM l E yX12_readConditionAnd cX12_readConditionAnd 5 (some .boolean) (rmS_readCondition D9) [.ref (r 200), .long a0] (gW E r shM t) (gqI E (gW E r shM) z)) {a0 : Int64} {t : St} (X : gX p s m meth c cX12_readCondition 5 (some .boolean) yX12_readCondition args E A) (h : o_X12_readCondition N fo_readConditionAnd a0 t = some z) : gP p l e (rmS_readCondition (D9 + 1)) s m args below meth c E A 5 (MQ below ((gqI E (gW E r shM) z) A) args s mc ms A) (gW E r shM) 0 [(0, .ref (r 200)), (1, .long a0)] [] t := by
  unfold o_X12_readCondition at h
  refine g_aload_n X dX12_readCondition_0 0 rfl ?_
  refine g_lload_n X dX12_readCondition_1 1 rfl ?_
  refine g_callI (rest := []) X (fun u9 h9 => ho_readConditionAnd a0 t u9 h9) yy_X12_readConditionAnd yi_X12_readConditionAnd wdM_RX12_516 0 12 (gW_at oM) rfl rfl rfl (Nat.le_of_ble_eq_true rfl) dX12_readCondition_2 ⟨by show D9 + 104 + 1 ≤ D9 + 1 + 104; omega, by show 8 + (5 + 11) + (60 * D9 + 6110) ≤ 60 * (D9 + 1) + 6110; omega⟩ ⟨rfl, rfl⟩ h (fun v2 t1 h => ?_)
  refine g_istore_n (lv' := [(3, iv v2), (0, .ref (r 200)), (1, .long a0)]) X dX12_readCondition_5 rfl (by decide) rfl ?_
  refine g_sub (lv' := [(0, .ref (r 200)), (1, .long a0), (3, iv v2)]) [1, 2, 0] rfl (t_o_X12_readCondition_L6 X ho_readConditionAnd (fun k18 t19 h => ?_) N v2 t1 h)
  · refine g_iload_n X dX12_readCondition_55 0 rfl ?_
    exact g_zret X h dX12_readCondition_56
set_option maxHeartbeats 4000000 in
set_option maxRecDepth 100000 in
theorem cpo_X12_readCondition (l : Launch) (E : cE) (r : Nat → Nat) (N : Nat) (D9 : Nat) (fo_readConditionAnd : (Int64 → St → Option (Int × St))) (ho_readConditionAnd : ∀ (a0 : Int64) (t : St) (z : Int × St), fo_readConditionAnd a0 t = some z → cM l E yX12_readConditionAnd cX12_readConditionAnd 5 (some .boolean) (rmS_readCondition D9) [.ref (r 200), .long a0] (gW E r shM t) (gqI E (gW E r shM) z)) (a0 : Int64) (t : St) (z : Int × St) (h : o_X12_readCondition N fo_readConditionAnd a0 t = some z) : cM l E yX12_readCondition cX12_readCondition 5 (some .boolean) (rmS_readCondition (D9 + 1)) [.ref (r 200), .long a0] (gW E r shM t) (gqI E (gW E r shM) z) := by
  refine g_of (w := gW E r shM) (by decide) (Nat.le_of_ble_eq_true rfl) ?_
  intro p e s m below meth c A X
  exact g_sub (lv' := [(0, .ref (r 200)), (1, .long a0)]) [0, 1] rfl (b_o_X12_readCondition ho_readConditionAnd X h)
theorem dX12_readConditionAnd_0 : decode cX12_readConditionAnd 0 = .ok (.aload_n 0, 1) := by decide +kernel
theorem dX12_readConditionAnd_1 : decode cX12_readConditionAnd 1 = .ok (.lload_n 1, 1) := by decide +kernel
theorem dX12_readConditionAnd_2 : decode cX12_readConditionAnd 2 = .ok (.invokevirtual 520, 3) := by decide +kernel
theorem dX12_readConditionAnd_5 : decode cX12_readConditionAnd 5 = .ok (.istore_n 3, 1) := by decide +kernel
theorem dX12_readConditionAnd_6 : decode cX12_readConditionAnd 6 = .ok (.aload_n 0, 1) := by decide +kernel
theorem dX12_readConditionAnd_7 : decode cX12_readConditionAnd 7 = .ok (.getfield 65, 3) := by decide +kernel
theorem dX12_readConditionAnd_10 : decode cX12_readConditionAnd 10 = .ok (.aload_n 0, 1) := by decide +kernel
theorem dX12_readConditionAnd_11 : decode cX12_readConditionAnd 11 = .ok (.getfield 454, 3) := by decide +kernel
theorem dX12_readConditionAnd_14 : decode cX12_readConditionAnd 14 = .ok (.iaload, 1) := by decide +kernel
theorem dX12_readConditionAnd_15 : decode cX12_readConditionAnd 15 = .ok (.bipush 25, 2) := by decide +kernel
theorem dX12_readConditionAnd_17 : decode cX12_readConditionAnd 17 = .ok (.if_icmp .ne 38, 3) := by decide +kernel
theorem dX12_readConditionAnd_20 : decode cX12_readConditionAnd 20 = .ok (.aload_n 0, 1) := by decide +kernel
theorem dX12_readConditionAnd_21 : decode cX12_readConditionAnd 21 = .ok (.dup, 1) := by decide +kernel
theorem dX12_readConditionAnd_22 : decode cX12_readConditionAnd 22 = .ok (.getfield 454, 3) := by decide +kernel
theorem dX12_readConditionAnd_25 : decode cX12_readConditionAnd 25 = .ok (.iconst 1, 1) := by decide +kernel
theorem dX12_readConditionAnd_26 : decode cX12_readConditionAnd 26 = .ok (.iadd, 1) := by decide +kernel
theorem dX12_readConditionAnd_27 : decode cX12_readConditionAnd 27 = .ok (.putfield 454, 3) := by decide +kernel
theorem dX12_readConditionAnd_30 : decode cX12_readConditionAnd 30 = .ok (.aload_n 0, 1) := by decide +kernel
theorem dX12_readConditionAnd_31 : decode cX12_readConditionAnd 31 = .ok (.lload_n 1, 1) := by decide +kernel
theorem dX12_readConditionAnd_32 : decode cX12_readConditionAnd 32 = .ok (.invokevirtual 520, 3) := by decide +kernel
theorem dX12_readConditionAnd_35 : decode cX12_readConditionAnd 35 = .ok (.istore 4, 2) := by decide +kernel
theorem dX12_readConditionAnd_37 : decode cX12_readConditionAnd 37 = .ok (.iload_n 3, 1) := by decide +kernel
theorem dX12_readConditionAnd_38 : decode cX12_readConditionAnd 38 = .ok (.ifCond .eq 12, 3) := by decide +kernel
theorem dX12_readConditionAnd_41 : decode cX12_readConditionAnd 41 = .ok (.iload 4, 2) := by decide +kernel
theorem dX12_readConditionAnd_43 : decode cX12_readConditionAnd 43 = .ok (.ifCond .eq 7, 3) := by decide +kernel
theorem dX12_readConditionAnd_46 : decode cX12_readConditionAnd 46 = .ok (.iconst 1, 1) := by decide +kernel
theorem dX12_readConditionAnd_47 : decode cX12_readConditionAnd 47 = .ok (.goto 4, 3) := by decide +kernel
theorem dX12_readConditionAnd_50 : decode cX12_readConditionAnd 50 = .ok (.iconst 0, 1) := by decide +kernel
theorem dX12_readConditionAnd_51 : decode cX12_readConditionAnd 51 = .ok (.istore_n 3, 1) := by decide +kernel
theorem dX12_readConditionAnd_52 : decode cX12_readConditionAnd 52 = .ok (.goto (-46), 3) := by decide +kernel
theorem dX12_readConditionAnd_55 : decode cX12_readConditionAnd 55 = .ok (.iload_n 3, 1) := by decide +kernel
theorem dX12_readConditionAnd_56 : decode cX12_readConditionAnd 56 = .ok (.ireturn, 1) := by decide +kernel
def o_X12_readConditionAnd_L6 (fo_readConditionOne : (Int64 → St → Option (Int × St))) (K6 : (Int → St → Option (Int × St))) (y3 : Int64) : Nat → Int → St → Option (Int × St)
  | 0, _, _ => none
  | n9 + 1, x4, t5 =>
    lt1 (t5.1 200 114) fun v7 =>
    ixI v7 10100 (lt1 (t5.1 31 v7.toNat) fun v8 =>
    cmpI v8 25 (if v8 = 25 then (lt1 (t5.1 200 114) fun v9 =>
    lt1 (pI t5 200 114 (v9 + 1)) fun t10 =>
    bdI (fo_readConditionOne y3 t10) fun v12 t11 =>
    jn1 (fun (j13 : Int) (t14 : St) => o_X12_readConditionAnd_L6 fo_readConditionOne K6 y3 n9 j13 t14) fun J15 =>
    jn1 (fun (t16 : St) => J15 0 t16) fun J17 =>
    cmpI x4 0 (if x4 = 0 then (J17 t11)
    else (cmpI v12 0 (if v12 = 0 then (J17 t11)
    else (J15 1 t11)))))
    else (K6 x4 t5)))
def o_X12_readConditionAnd (N : Nat) (fo_readConditionOne : (Int64 → St → Option (Int × St))) (a0 : Int64) (t : St) : Option (Int × St) :=
    bdI (fo_readConditionOne a0 t) fun v2 t1 =>
    o_X12_readConditionAnd_L6 fo_readConditionOne (fun (k18 : Int) (t19 : St) => boI k18 (some (k18, t19))) a0 N v2 t1
set_option maxHeartbeats 4000000 in
set_option maxRecDepth 100000 in
theorem t_o_X12_readConditionAnd_L6 {p : Program} {l : Launch} {e : Env} {s : State} {m : MethodId} {args : Array Value} {below : List Frame} {meth : Method} {c : Code} {E : cE} {A : Nat → Prop} {r : Nat → Nat} {mc ms : Nat} {z : Int × St} {D9 : Nat} {fo_readConditionOne : (Int64 → St → Option (Int × St))} {K6 : (Int → St → Option (Int × St))} {y3 : Int64} (X : gX p s m meth c cX12_readConditionAnd 5 (some .boolean) yX12_readConditionAnd args E A) (ho_readConditionOne : ∀ (a0 : Int64) (t : St) (z : Int × St), fo_readConditionOne a0 t = some z → cM l E yX12_readConditionOne cX12_readConditionOne 5 (some .boolean) (rmS_readCondition D9) [.ref (r 200), .long a0] (gW E r shM t) (gqI E (gW E r shM) z)) (hK6 : ∀ (q3 : Int) (t9 : St), K6 q3 t9 = some z → gP p l e (rmS_readCondition (D9 + 1)) s m args below meth c E A 5 (MQ below ((gqI E (gW E r shM) z) A) args s mc ms A) (gW E r shM) 55 [(3, iv q3)] [] t9) : ∀ (n9 : Nat) (x4 : Int) (t5 : St), o_X12_readConditionAnd_L6 fo_readConditionOne K6 y3 n9 x4 t5 = some z → gP p l e (rmS_readCondition (D9 + 1)) s m args below meth c E A 5 (MQ below ((gqI E (gW E r shM) z) A) args s mc ms A) (gW E r shM) 6 [(0, .ref (r 200)), (1, .long y3), (3, iv x4)] [] t5 := by
  intro n9
  induction n9 with
  | zero => intro x4 t5 h; cases h
  | succ n9 ih =>
    intro x4 t5 h
    unfold o_X12_readConditionAnd_L6 at h
    refine g_aload_n X dX12_readConditionAnd_6 0 rfl ?_
    refine g_getR X fM_31 rfl dX12_readConditionAnd_7 ?_
    refine g_aload_n X dX12_readConditionAnd_10 0 rfl ?_
    refine g_getI X fM_114 rfl dX12_readConditionAnd_11 h (fun v7 h => ?_)
    refine g_iald X aM_31 dX12_readConditionAnd_14 h (fun v8 h => ?_)
    refine g_bipush X dX12_readConditionAnd_15 (by decide) ?_
    refine g_icmp_ne (tgt := 55) X dX12_readConditionAnd_17 (by decide) h (fun h => ?_) (fun h => ?_)
    · exact g_sub (lv' := [(3, iv x4)]) [2] rfl (hK6 x4 t5 h)
    · refine g_aload_n X dX12_readConditionAnd_20 0 rfl ?_
      refine g_dup X rfl dX12_readConditionAnd_21 ?_
      refine g_getI X fM_114 rfl dX12_readConditionAnd_22 h (fun v9 h => ?_)
      refine g_iconst X dX12_readConditionAnd_25 ?_
      refine g_iadd X dX12_readConditionAnd_26 ?_
      refine g_putI X fM_114w rfl dX12_readConditionAnd_27 h (fun t10 h => ?_)
      refine g_aload_n X dX12_readConditionAnd_30 0 rfl ?_
      refine g_lload_n X dX12_readConditionAnd_31 1 rfl ?_
      refine g_callI (rest := []) X (fun u9 h9 => ho_readConditionOne y3 t10 u9 h9) yy_X12_readConditionOne yi_X12_readConditionOne wdM_RX12_520 0 12 (gW_at oM) rfl rfl rfl (Nat.le_of_ble_eq_true rfl) dX12_readConditionAnd_32 ⟨by show D9 + 104 + 1 ≤ D9 + 1 + 104; omega, by show 8 + (5 + 11) + (60 * D9 + 6110) ≤ 60 * (D9 + 1) + 6110; omega⟩ ⟨rfl, rfl⟩ h (fun v12 t11 h => ?_)
      refine g_istore (lv' := [(4, iv v12), (0, .ref (r 200)), (1, .long y3), (3, iv x4)]) X dX12_readConditionAnd_35 (by decide) rfl ?_
      refine g_iload_n X dX12_readConditionAnd_37 3 rfl ?_
      refine g_join (J := fun jj => ∀ (j13 : Int) (t14 : St), jj j13 t14 = some z → gP p l e (rmS_readCondition (D9 + 1)) s m args below meth c E A 5 (MQ below ((gqI E (gW E r shM) z) A) args s mc ms A) (gW E r shM) 51 [(0, .ref (r 200)), (1, .long y3)] [iv j13] t14) h (fun j13 t14 h => ?_) (fun J15 hJ15 h => ?_)
      · refine g_istore_n (lv' := [(3, iv j13), (0, .ref (r 200)), (1, .long y3)]) X dX12_readConditionAnd_51 rfl (by decide) rfl ?_
        refine g_goto (tgt := 6) X dX12_readConditionAnd_52 (by decide) ?_
        exact g_sub (lv' := [(0, .ref (r 200)), (1, .long y3), (3, iv j13)]) [1, 2, 0] rfl (ih j13 t14 h)
      refine g_join (J := fun jj => ∀ (t16 : St), jj  t16 = some z → gP p l e (rmS_readCondition (D9 + 1)) s m args below meth c E A 5 (MQ below ((gqI E (gW E r shM) z) A) args s mc ms A) (gW E r shM) 50 [(0, .ref (r 200)), (1, .long y3)] [] t16) h (fun  t16 h => ?_) (fun J17 hJ17 h => ?_)
      · refine g_iconst X dX12_readConditionAnd_50 ?_
        exact g_sub (lv' := [(0, .ref (r 200)), (1, .long y3)]) [0, 1] rfl (hJ15 0 t16 h)
      refine g_if_eq (tgt := 50) X dX12_readConditionAnd_38 (by decide) h (fun h => ?_) (fun h => ?_)
      · exact g_sub (lv' := [(0, .ref (r 200)), (1, .long y3)]) [1, 2] rfl (hJ17 t11 h)
      · refine g_iload X dX12_readConditionAnd_41 0 rfl ?_
        refine g_if_eq (tgt := 50) X dX12_readConditionAnd_43 (by decide) h (fun h => ?_) (fun h => ?_)
        · exact g_sub (lv' := [(0, .ref (r 200)), (1, .long y3)]) [1, 2] rfl (hJ17 t11 h)
        · refine g_iconst X dX12_readConditionAnd_46 ?_
          refine g_goto (tgt := 51) X dX12_readConditionAnd_47 (by decide) ?_
          exact g_sub (lv' := [(0, .ref (r 200)), (1, .long y3)]) [1, 2] rfl (hJ15 1 t11 h)
set_option maxHeartbeats 4000000 in
set_option maxRecDepth 100000 in
theorem b_o_X12_readConditionAnd {p : Program} {l : Launch} {e : Env} {s : State} {m : MethodId} {args : Array Value} {below : List Frame} {meth : Method} {c : Code} {E : cE} {A : Nat → Prop} {r : Nat → Nat} {mc ms : Nat} {z : Int × St} {N : Nat} {D9 : Nat} {fo_readConditionOne : (Int64 → St → Option (Int × St))} (ho_readConditionOne : ∀ (a0 : Int64) (t : St) (z : Int × St), fo_readConditionOne a0 t = some z → cM l E yX12_readConditionOne cX12_readConditionOne 5 (some .boolean) (rmS_readCondition D9) [.ref (r 200), .long a0] (gW E r shM t) (gqI E (gW E r shM) z)) {a0 : Int64} {t : St} (X : gX p s m meth c cX12_readConditionAnd 5 (some .boolean) yX12_readConditionAnd args E A) (h : o_X12_readConditionAnd N fo_readConditionOne a0 t = some z) : gP p l e (rmS_readCondition (D9 + 1)) s m args below meth c E A 5 (MQ below ((gqI E (gW E r shM) z) A) args s mc ms A) (gW E r shM) 0 [(0, .ref (r 200)), (1, .long a0)] [] t := by
  unfold o_X12_readConditionAnd at h
  refine g_aload_n X dX12_readConditionAnd_0 0 rfl ?_
  refine g_lload_n X dX12_readConditionAnd_1 1 rfl ?_
  refine g_callI (rest := []) X (fun u9 h9 => ho_readConditionOne a0 t u9 h9) yy_X12_readConditionOne yi_X12_readConditionOne wdM_RX12_520 0 12 (gW_at oM) rfl rfl rfl (Nat.le_of_ble_eq_true rfl) dX12_readConditionAnd_2 ⟨by show D9 + 104 + 1 ≤ D9 + 1 + 104; omega, by show 8 + (5 + 11) + (60 * D9 + 6110) ≤ 60 * (D9 + 1) + 6110; omega⟩ ⟨rfl, rfl⟩ h (fun v2 t1 h => ?_)
  refine g_istore_n (lv' := [(3, iv v2), (0, .ref (r 200)), (1, .long a0)]) X dX12_readConditionAnd_5 rfl (by decide) rfl ?_
  refine g_sub (lv' := [(0, .ref (r 200)), (1, .long a0), (3, iv v2)]) [1, 2, 0] rfl (t_o_X12_readConditionAnd_L6 X ho_readConditionOne (fun k18 t19 h => ?_) N v2 t1 h)
  · refine g_iload_n X dX12_readConditionAnd_55 0 rfl ?_
    exact g_zret X h dX12_readConditionAnd_56
set_option maxHeartbeats 4000000 in
set_option maxRecDepth 100000 in
theorem cpo_X12_readConditionAnd (l : Launch) (E : cE) (r : Nat → Nat) (N : Nat) (D9 : Nat) (fo_readConditionOne : (Int64 → St → Option (Int × St))) (ho_readConditionOne : ∀ (a0 : Int64) (t : St) (z : Int × St), fo_readConditionOne a0 t = some z → cM l E yX12_readConditionOne cX12_readConditionOne 5 (some .boolean) (rmS_readCondition D9) [.ref (r 200), .long a0] (gW E r shM t) (gqI E (gW E r shM) z)) (a0 : Int64) (t : St) (z : Int × St) (h : o_X12_readConditionAnd N fo_readConditionOne a0 t = some z) : cM l E yX12_readConditionAnd cX12_readConditionAnd 5 (some .boolean) (rmS_readCondition (D9 + 1)) [.ref (r 200), .long a0] (gW E r shM t) (gqI E (gW E r shM) z) := by
  refine g_of (w := gW E r shM) (by decide) (Nat.le_of_ble_eq_true rfl) ?_
  intro p e s m below meth c A X
  exact g_sub (lv' := [(0, .ref (r 200)), (1, .long a0)]) [0, 1] rfl (b_o_X12_readConditionAnd ho_readConditionOne X h)
theorem dX12_readConditionOne_0 : decode cX12_readConditionOne 0 = .ok (.aload_n 0, 1) := by decide +kernel
theorem dX12_readConditionOne_1 : decode cX12_readConditionOne 1 = .ok (.getfield 65, 3) := by decide +kernel
theorem dX12_readConditionOne_4 : decode cX12_readConditionOne 4 = .ok (.aload_n 0, 1) := by decide +kernel
theorem dX12_readConditionOne_5 : decode cX12_readConditionOne 5 = .ok (.getfield 454, 3) := by decide +kernel
theorem dX12_readConditionOne_8 : decode cX12_readConditionOne 8 = .ok (.iaload, 1) := by decide +kernel
theorem dX12_readConditionOne_9 : decode cX12_readConditionOne 9 = .ok (.istore_n 3, 1) := by decide +kernel
theorem dX12_readConditionOne_10 : decode cX12_readConditionOne 10 = .ok (.aload_n 0, 1) := by decide +kernel
theorem dX12_readConditionOne_11 : decode cX12_readConditionOne 11 = .ok (.dup, 1) := by decide +kernel
theorem dX12_readConditionOne_12 : decode cX12_readConditionOne 12 = .ok (.getfield 454, 3) := by decide +kernel
theorem dX12_readConditionOne_15 : decode cX12_readConditionOne 15 = .ok (.iconst 1, 1) := by decide +kernel
theorem dX12_readConditionOne_16 : decode cX12_readConditionOne 16 = .ok (.iadd, 1) := by decide +kernel
theorem dX12_readConditionOne_17 : decode cX12_readConditionOne 17 = .ok (.putfield 454, 3) := by decide +kernel
theorem dX12_readConditionOne_20 : decode cX12_readConditionOne 20 = .ok (.iload_n 3, 1) := by decide +kernel
theorem dX12_readConditionOne_21 : decode cX12_readConditionOne 21 = .ok (.bipush 26, 2) := by decide +kernel
theorem dX12_readConditionOne_23 : decode cX12_readConditionOne 23 = .ok (.if_icmp .ne 17, 3) := by decide +kernel
theorem dX12_readConditionOne_26 : decode cX12_readConditionOne 26 = .ok (.aload_n 0, 1) := by decide +kernel
theorem dX12_readConditionOne_27 : decode cX12_readConditionOne 27 = .ok (.lload_n 1, 1) := by decide +kernel
theorem dX12_readConditionOne_28 : decode cX12_readConditionOne 28 = .ok (.invokevirtual 520, 3) := by decide +kernel
theorem dX12_readConditionOne_31 : decode cX12_readConditionOne 31 = .ok (.ifCond .ne 7, 3) := by decide +kernel
theorem dX12_readConditionOne_34 : decode cX12_readConditionOne 34 = .ok (.iconst 1, 1) := by decide +kernel
theorem dX12_readConditionOne_35 : decode cX12_readConditionOne 35 = .ok (.goto 4, 3) := by decide +kernel
theorem dX12_readConditionOne_38 : decode cX12_readConditionOne 38 = .ok (.iconst 0, 1) := by decide +kernel
theorem dX12_readConditionOne_39 : decode cX12_readConditionOne 39 = .ok (.ireturn, 1) := by decide +kernel
theorem dX12_readConditionOne_40 : decode cX12_readConditionOne 40 = .ok (.iload_n 3, 1) := by decide +kernel
theorem dX12_readConditionOne_41 : decode cX12_readConditionOne 41 = .ok (.bipush 27, 2) := by decide +kernel
theorem dX12_readConditionOne_43 : decode cX12_readConditionOne 43 = .ok (.if_icmp .ne 8, 3) := by decide +kernel
theorem dX12_readConditionOne_46 : decode cX12_readConditionOne 46 = .ok (.aload_n 0, 1) := by decide +kernel
theorem dX12_readConditionOne_47 : decode cX12_readConditionOne 47 = .ok (.invokevirtual 523, 3) := by decide +kernel
theorem dX12_readConditionOne_50 : decode cX12_readConditionOne 50 = .ok (.ireturn, 1) := by decide +kernel
theorem dX12_readConditionOne_51 : decode cX12_readConditionOne 51 = .ok (.iload_n 3, 1) := by decide +kernel
theorem dX12_readConditionOne_52 : decode cX12_readConditionOne 52 = .ok (.bipush 28, 2) := by decide +kernel
theorem dX12_readConditionOne_54 : decode cX12_readConditionOne 54 = .ok (.if_icmp .ne 49, 3) := by decide +kernel
theorem dX12_readConditionOne_57 : decode cX12_readConditionOne 57 = .ok (.aload_n 0, 1) := by decide +kernel
theorem dX12_readConditionOne_58 : decode cX12_readConditionOne 58 = .ok (.lload_n 1, 1) := by decide +kernel
theorem dX12_readConditionOne_59 : decode cX12_readConditionOne 59 = .ok (.invokevirtual 460, 3) := by decide +kernel
theorem dX12_readConditionOne_62 : decode cX12_readConditionOne 62 = .ok (.invokestatic 509, 3) := by decide +kernel
theorem dX12_readConditionOne_65 : decode cX12_readConditionOne 65 = .ok (.istore 4, 2) := by decide +kernel
theorem dX12_readConditionOne_67 : decode cX12_readConditionOne 67 = .ok (.aload_n 0, 1) := by decide +kernel
theorem dX12_readConditionOne_68 : decode cX12_readConditionOne 68 = .ok (.dup, 1) := by decide +kernel
theorem dX12_readConditionOne_69 : decode cX12_readConditionOne 69 = .ok (.getfield 454, 3) := by decide +kernel
theorem dX12_readConditionOne_72 : decode cX12_readConditionOne 72 = .ok (.iconst 2, 1) := by decide +kernel
theorem dX12_readConditionOne_73 : decode cX12_readConditionOne 73 = .ok (.iadd, 1) := by decide +kernel
theorem dX12_readConditionOne_74 : decode cX12_readConditionOne 74 = .ok (.putfield 454, 3) := by decide +kernel
theorem dX12_readConditionOne_77 : decode cX12_readConditionOne 77 = .ok (.iload 4, 2) := by decide +kernel
theorem dX12_readConditionOne_79 : decode cX12_readConditionOne 79 = .ok (.aload_n 0, 1) := by decide +kernel
theorem dX12_readConditionOne_80 : decode cX12_readConditionOne 80 = .ok (.getfield 65, 3) := by decide +kernel
theorem dX12_readConditionOne_83 : decode cX12_readConditionOne 83 = .ok (.aload_n 0, 1) := by decide +kernel
theorem dX12_readConditionOne_84 : decode cX12_readConditionOne 84 = .ok (.getfield 454, 3) := by decide +kernel
theorem dX12_readConditionOne_87 : decode cX12_readConditionOne 87 = .ok (.iconst 1, 1) := by decide +kernel
theorem dX12_readConditionOne_88 : decode cX12_readConditionOne 88 = .ok (.isub, 1) := by decide +kernel
theorem dX12_readConditionOne_89 : decode cX12_readConditionOne 89 = .ok (.iaload, 1) := by decide +kernel
theorem dX12_readConditionOne_90 : decode cX12_readConditionOne 90 = .ok (.sipush 1000, 3) := by decide +kernel
theorem dX12_readConditionOne_93 : decode cX12_readConditionOne 93 = .ok (.isub, 1) := by decide +kernel
theorem dX12_readConditionOne_94 : decode cX12_readConditionOne 94 = .ok (.if_icmp .ne 7, 3) := by decide +kernel
theorem dX12_readConditionOne_97 : decode cX12_readConditionOne 97 = .ok (.iconst 1, 1) := by decide +kernel
theorem dX12_readConditionOne_98 : decode cX12_readConditionOne 98 = .ok (.goto 4, 3) := by decide +kernel
theorem dX12_readConditionOne_101 : decode cX12_readConditionOne 101 = .ok (.iconst 0, 1) := by decide +kernel
theorem dX12_readConditionOne_102 : decode cX12_readConditionOne 102 = .ok (.ireturn, 1) := by decide +kernel
theorem dX12_readConditionOne_103 : decode cX12_readConditionOne 103 = .ok (.iload_n 3, 1) := by decide +kernel
theorem dX12_readConditionOne_104 : decode cX12_readConditionOne 104 = .ok (.bipush 30, 2) := by decide +kernel
theorem dX12_readConditionOne_106 : decode cX12_readConditionOne 106 = .ok (.if_icmp .ne 49, 3) := by decide +kernel
theorem dX12_readConditionOne_109 : decode cX12_readConditionOne 109 = .ok (.aload_n 0, 1) := by decide +kernel
theorem dX12_readConditionOne_110 : decode cX12_readConditionOne 110 = .ok (.getfield 65, 3) := by decide +kernel
theorem dX12_readConditionOne_113 : decode cX12_readConditionOne 113 = .ok (.aload_n 0, 1) := by decide +kernel
theorem dX12_readConditionOne_114 : decode cX12_readConditionOne 114 = .ok (.getfield 454, 3) := by decide +kernel
theorem dX12_readConditionOne_117 : decode cX12_readConditionOne 117 = .ok (.iaload, 1) := by decide +kernel
theorem dX12_readConditionOne_118 : decode cX12_readConditionOne 118 = .ok (.sipush 2000, 3) := by decide +kernel
theorem dX12_readConditionOne_121 : decode cX12_readConditionOne 121 = .ok (.isub, 1) := by decide +kernel
theorem dX12_readConditionOne_122 : decode cX12_readConditionOne 122 = .ok (.istore 4, 2) := by decide +kernel
theorem dX12_readConditionOne_124 : decode cX12_readConditionOne 124 = .ok (.aload_n 0, 1) := by decide +kernel
theorem dX12_readConditionOne_125 : decode cX12_readConditionOne 125 = .ok (.dup, 1) := by decide +kernel
theorem dX12_readConditionOne_126 : decode cX12_readConditionOne 126 = .ok (.getfield 454, 3) := by decide +kernel
theorem dX12_readConditionOne_129 : decode cX12_readConditionOne 129 = .ok (.iconst 1, 1) := by decide +kernel
theorem dX12_readConditionOne_130 : decode cX12_readConditionOne 130 = .ok (.iadd, 1) := by decide +kernel
theorem dX12_readConditionOne_131 : decode cX12_readConditionOne 131 = .ok (.putfield 454, 3) := by decide +kernel
theorem dX12_readConditionOne_134 : decode cX12_readConditionOne 134 = .ok (.aload_n 0, 1) := by decide +kernel
theorem dX12_readConditionOne_135 : decode cX12_readConditionOne 135 = .ok (.aload_n 0, 1) := by decide +kernel
theorem dX12_readConditionOne_136 : decode cX12_readConditionOne 136 = .ok (.lload_n 1, 1) := by decide +kernel
theorem dX12_readConditionOne_137 : decode cX12_readConditionOne 137 = .ok (.invokevirtual 460, 3) := by decide +kernel
theorem dX12_readConditionOne_140 : decode cX12_readConditionOne 140 = .ok (.iload 4, 2) := by decide +kernel
theorem dX12_readConditionOne_142 : decode cX12_readConditionOne 142 = .ok (.invokevirtual 526, 3) := by decide +kernel
theorem dX12_readConditionOne_145 : decode cX12_readConditionOne 145 = .ok (.iconst 1, 1) := by decide +kernel
theorem dX12_readConditionOne_146 : decode cX12_readConditionOne 146 = .ok (.if_icmp .ne 7, 3) := by decide +kernel
theorem dX12_readConditionOne_149 : decode cX12_readConditionOne 149 = .ok (.iconst 1, 1) := by decide +kernel
theorem dX12_readConditionOne_150 : decode cX12_readConditionOne 150 = .ok (.goto 4, 3) := by decide +kernel
theorem dX12_readConditionOne_153 : decode cX12_readConditionOne 153 = .ok (.iconst 0, 1) := by decide +kernel
theorem dX12_readConditionOne_154 : decode cX12_readConditionOne 154 = .ok (.ireturn, 1) := by decide +kernel
theorem dX12_readConditionOne_155 : decode cX12_readConditionOne 155 = .ok (.aload_n 0, 1) := by decide +kernel
theorem dX12_readConditionOne_156 : decode cX12_readConditionOne 156 = .ok (.lload_n 1, 1) := by decide +kernel
theorem dX12_readConditionOne_157 : decode cX12_readConditionOne 157 = .ok (.invokevirtual 530, 3) := by decide +kernel
theorem dX12_readConditionOne_160 : decode cX12_readConditionOne 160 = .ok (.istore 4, 2) := by decide +kernel
theorem dX12_readConditionOne_162 : decode cX12_readConditionOne 162 = .ok (.aload_n 0, 1) := by decide +kernel
theorem dX12_readConditionOne_163 : decode cX12_readConditionOne 163 = .ok (.dup, 1) := by decide +kernel
theorem dX12_readConditionOne_164 : decode cX12_readConditionOne 164 = .ok (.getfield 454, 3) := by decide +kernel
theorem dX12_readConditionOne_167 : decode cX12_readConditionOne 167 = .ok (.iconst 1, 1) := by decide +kernel
theorem dX12_readConditionOne_168 : decode cX12_readConditionOne 168 = .ok (.iadd, 1) := by decide +kernel
theorem dX12_readConditionOne_169 : decode cX12_readConditionOne 169 = .ok (.putfield 454, 3) := by decide +kernel
theorem dX12_readConditionOne_172 : decode cX12_readConditionOne 172 = .ok (.iload 4, 2) := by decide +kernel
theorem dX12_readConditionOne_174 : decode cX12_readConditionOne 174 = .ok (.ireturn, 1) := by decide +kernel
def o_X12_readConditionOne (N : Nat) (fo_readConditionOne : (Int64 → St → Option (Int × St))) (fo_readCondition : (Int64 → St → Option (Int × St))) (a0 : Int64) (t : St) : Option (Int × St) :=
    lt1 (t.1 200 114) fun v1 =>
    ixI v1 10100 (lt1 (t.1 31 v1.toNat) fun v2 =>
    lt1 (t.1 200 114) fun v3 =>
    lt1 (pI t 200 114 (v3 + 1)) fun t4 =>
    cmpI v2 26 (if v2 = 26 then (bdI (fo_readConditionOne a0 t4) fun v28 t27 =>
    cmpI v28 0 (if v28 = 0 then (boI 1 (some (1, t27)))
    else (boI 0 (some (0, t27)))))
    else (cmpI v2 27 (if v2 = 27 then (bdI (f_X12_isHome N t4) fun v26 t25 =>
    boI v26 (some (v26, t25)))
    else (cmpI v2 28 (if v2 = 28 then (bdL (f_X12_readWho N a0 t4) fun v18 t17 =>
    bdI (f_X12_sizeOf N v18 t17) fun v20 t19 =>
    lt1 (t19.1 200 114) fun v21 =>
    lt1 (pI t19 200 114 (v21 + 2)) fun t22 =>
    lt1 (t22.1 200 114) fun v23 =>
    ixI (v23 - 1) 10100 (lt1 (t22.1 31 (v23 - 1).toNat) fun v24 =>
    cmpI v20 (v24 - 1000) (if v20 = (v24 - 1000) then (boI 1 (some (1, t22)))
    else (boI 0 (some (0, t22))))))
    else (cmpI v2 30 (if v2 = 30 then (lt1 (t4.1 200 114) fun v9 =>
    ixI v9 10100 (lt1 (t4.1 31 v9.toNat) fun v10 =>
    lt1 (t4.1 200 114) fun v11 =>
    lt1 (pI t4 200 114 (v11 + 1)) fun t12 =>
    bdL (f_X12_readWho N a0 t12) fun v14 t13 =>
    bdI (f_X12_parted N v14 (v10 - 2000) t13) fun v16 t15 =>
    cmpI v16 1 (if v16 = 1 then (boI 1 (some (1, t15)))
    else (boI 0 (some (0, t15))))))
    else (bdI (fo_readCondition a0 t4) fun v6 t5 =>
    lt1 (t5.1 200 114) fun v7 =>
    lt1 (pI t5 200 114 (v7 + 1)) fun t8 =>
    boI v6 (some (v6, t8)))))))))))
set_option maxHeartbeats 4000000 in
set_option maxRecDepth 100000 in
theorem b_o_X12_readConditionOne {p : Program} {l : Launch} {e : Env} {s : State} {m : MethodId} {args : Array Value} {below : List Frame} {meth : Method} {c : Code} {E : cE} {A : Nat → Prop} {r : Nat → Nat} {mc ms : Nat} {z : Int × St} {N : Nat} {D9 : Nat} {fo_readConditionOne : (Int64 → St → Option (Int × St))} {fo_readCondition : (Int64 → St → Option (Int × St))} (ho_readConditionOne : ∀ (a0 : Int64) (t : St) (z : Int × St), fo_readConditionOne a0 t = some z → cM l E yX12_readConditionOne cX12_readConditionOne 5 (some .boolean) (rmS_readCondition D9) [.ref (r 200), .long a0] (gW E r shM t) (gqI E (gW E r shM) z)) (ho_readCondition : ∀ (a0 : Int64) (t : St) (z : Int × St), fo_readCondition a0 t = some z → cM l E yX12_readCondition cX12_readCondition 5 (some .boolean) (rmS_readCondition D9) [.ref (r 200), .long a0] (gW E r shM t) (gqI E (gW E r shM) z)) {a0 : Int64} {t : St} (X : gX p s m meth c cX12_readConditionOne 5 (some .boolean) yX12_readConditionOne args E A) (h : o_X12_readConditionOne N fo_readConditionOne fo_readCondition a0 t = some z) : gP p l e (rmS_readCondition (D9 + 1)) s m args below meth c E A 5 (MQ below ((gqI E (gW E r shM) z) A) args s mc ms A) (gW E r shM) 0 [(0, .ref (r 200)), (1, .long a0)] [] t := by
  unfold o_X12_readConditionOne at h
  refine g_aload_n X dX12_readConditionOne_0 0 rfl ?_
  refine g_getR X fM_31 rfl dX12_readConditionOne_1 ?_
  refine g_aload_n X dX12_readConditionOne_4 0 rfl ?_
  refine g_getI X fM_114 rfl dX12_readConditionOne_5 h (fun v1 h => ?_)
  refine g_iald X aM_31 dX12_readConditionOne_8 h (fun v2 h => ?_)
  refine g_istore_n (lv' := [(3, iv v2), (0, .ref (r 200)), (1, .long a0)]) X dX12_readConditionOne_9 rfl (by decide) rfl ?_
  refine g_aload_n X dX12_readConditionOne_10 1 rfl ?_
  refine g_dup X rfl dX12_readConditionOne_11 ?_
  refine g_getI X fM_114 rfl dX12_readConditionOne_12 h (fun v3 h => ?_)
  refine g_iconst X dX12_readConditionOne_15 ?_
  refine g_iadd X dX12_readConditionOne_16 ?_
  refine g_putI X fM_114w rfl dX12_readConditionOne_17 h (fun t4 h => ?_)
  refine g_iload_n X dX12_readConditionOne_20 0 rfl ?_
  refine g_bipush X dX12_readConditionOne_21 (by decide) ?_
  refine g_icmp_ne (tgt := 40) X dX12_readConditionOne_23 (by decide) h (fun h => ?_) (fun h => ?_)
  · refine g_iload_n X dX12_readConditionOne_40 0 rfl ?_
    refine g_bipush X dX12_readConditionOne_41 (by decide) ?_
    refine g_icmp_ne (tgt := 51) X dX12_readConditionOne_43 (by decide) h (fun h => ?_) (fun h => ?_)
    · refine g_iload_n X dX12_readConditionOne_51 0 rfl ?_
      refine g_bipush X dX12_readConditionOne_52 (by decide) ?_
      refine g_icmp_ne (tgt := 103) X dX12_readConditionOne_54 (by decide) h (fun h => ?_) (fun h => ?_)
      · refine g_iload_n X dX12_readConditionOne_103 0 rfl ?_
        refine g_bipush X dX12_readConditionOne_104 (by decide) ?_
        refine g_icmp_ne (tgt := 155) X dX12_readConditionOne_106 (by decide) h (fun h => ?_) (fun h => ?_)
        · refine g_aload_n X dX12_readConditionOne_155 1 rfl ?_
          refine g_lload_n X dX12_readConditionOne_156 2 rfl ?_
          refine g_callI (rest := []) X (fun u9 h9 => ho_readCondition a0 t4 u9 h9) yy_X12_readCondition yi_X12_readCondition wdM_RX12_530 0 12 (gW_at oM) rfl rfl rfl (Nat.le_of_ble_eq_true rfl) dX12_readConditionOne_157 ⟨by show D9 + 104 + 1 ≤ D9 + 1 + 104; omega, by show 8 + (5 + 11) + (60 * D9 + 6110) ≤ 60 * (D9 + 1) + 6110; omega⟩ ⟨rfl, rfl⟩ h (fun v6 t5 h => ?_)
          refine g_istore (lv' := [(4, iv v6), (3, iv v2), (0, .ref (r 200)), (1, .long a0)]) X dX12_readConditionOne_160 (by decide) rfl ?_
          refine g_aload_n X dX12_readConditionOne_162 2 rfl ?_
          refine g_dup X rfl dX12_readConditionOne_163 ?_
          refine g_getI X fM_114 rfl dX12_readConditionOne_164 h (fun v7 h => ?_)
          refine g_iconst X dX12_readConditionOne_167 ?_
          refine g_iadd X dX12_readConditionOne_168 ?_
          refine g_putI X fM_114w rfl dX12_readConditionOne_169 h (fun t8 h => ?_)
          refine g_iload X dX12_readConditionOne_172 0 rfl ?_
          exact g_zret X h dX12_readConditionOne_174
        · refine g_aload_n X dX12_readConditionOne_109 1 rfl ?_
          refine g_getR X fM_31 rfl dX12_readConditionOne_110 ?_
          refine g_aload_n X dX12_readConditionOne_113 1 rfl ?_
          refine g_getI X fM_114 rfl dX12_readConditionOne_114 h (fun v9 h => ?_)
          refine g_iald X aM_31 dX12_readConditionOne_117 h (fun v10 h => ?_)
          refine g_sipush X dX12_readConditionOne_118 (by decide) ?_
          refine g_isub X dX12_readConditionOne_121 ?_
          refine g_istore (lv' := [(4, iv (v10 - 2000)), (3, iv v2), (0, .ref (r 200)), (1, .long a0)]) X dX12_readConditionOne_122 (by decide) rfl ?_
          refine g_aload_n X dX12_readConditionOne_124 2 rfl ?_
          refine g_dup X rfl dX12_readConditionOne_125 ?_
          refine g_getI X fM_114 rfl dX12_readConditionOne_126 h (fun v11 h => ?_)
          refine g_iconst X dX12_readConditionOne_129 ?_
          refine g_iadd X dX12_readConditionOne_130 ?_
          refine g_putI X fM_114w rfl dX12_readConditionOne_131 h (fun t12 h => ?_)
          refine g_aload_n X dX12_readConditionOne_134 2 rfl ?_
          refine g_aload_n X dX12_readConditionOne_135 2 rfl ?_
          refine g_lload_n X dX12_readConditionOne_136 3 rfl ?_
          refine g_callL (rest := [.ref (r 200)]) X (fun u9 h9 => cp_X12_readWho l E r N a0 t12 u9 h9) yy_X12_readWho yi_X12_readWho wdM_RX12_460 0 12 (gW_at oM) rfl rfl rfl (Nat.le_of_ble_eq_true rfl) dX12_readConditionOne_137 ⟨by show 103 + 1 ≤ D9 + 1 + 104; omega, by show 8 + (5 + 11) + 6086 ≤ 60 * (D9 + 1) + 6110; omega⟩ ⟨rfl, rfl⟩ h (fun v14 t13 h => ?_)
          refine g_iload X dX12_readConditionOne_140 0 rfl ?_
          refine g_callI (rest := []) X (fun u9 h9 => cp_X12_parted l E r N v14 (v10 - 2000) t13 u9 h9) yy_X12_parted yi_X12_parted wdM_RX12_526 0 12 (gW_at oM) rfl rfl rfl (Nat.le_of_ble_eq_true rfl) dX12_readConditionOne_142 ⟨by show 2 + 1 ≤ D9 + 1 + 104; omega, by show 8 + (11 + 11) + 55 ≤ 60 * (D9 + 1) + 6110; omega⟩ ⟨rfl, rfl⟩ h (fun v16 t15 h => ?_)
          refine g_iconst X dX12_readConditionOne_145 ?_
          refine g_icmp_ne (tgt := 153) X dX12_readConditionOne_146 (by decide) h (fun h => ?_) (fun h => ?_)
          · refine g_iconst X dX12_readConditionOne_153 ?_
            exact g_zret X h dX12_readConditionOne_154
          · refine g_iconst X dX12_readConditionOne_149 ?_
            refine g_goto (tgt := 154) X dX12_readConditionOne_150 (by decide) ?_
            exact g_zret X h dX12_readConditionOne_154
      · refine g_aload_n X dX12_readConditionOne_57 1 rfl ?_
        refine g_lload_n X dX12_readConditionOne_58 2 rfl ?_
        refine g_callL (rest := []) X (fun u9 h9 => cp_X12_readWho l E r N a0 t4 u9 h9) yy_X12_readWho yi_X12_readWho wdM_RX12_460 0 12 (gW_at oM) rfl rfl rfl (Nat.le_of_ble_eq_true rfl) dX12_readConditionOne_59 ⟨by show 103 + 1 ≤ D9 + 1 + 104; omega, by show 8 + (5 + 11) + 6086 ≤ 60 * (D9 + 1) + 6110; omega⟩ ⟨rfl, rfl⟩ h (fun v18 t17 h => ?_)
        refine g_callsI (rest := []) X (fun u9 h9 => cp_X12_sizeOf l E r N v18 t17 u9 h9) yy_X12_sizeOf wdT_X12_sizeOf wdM_RX12_509 rfl rfl (Nat.le_of_ble_eq_true rfl) dX12_readConditionOne_62 ⟨by show 1 + 1 ≤ D9 + 1 + 104; omega, by show 8 + (4 + 11) + 22 ≤ 60 * (D9 + 1) + 6110; omega⟩ ⟨rfl, rfl⟩ h (fun v20 t19 h => ?_)
        refine g_istore (lv' := [(4, iv v20), (3, iv v2), (0, .ref (r 200)), (1, .long a0)]) X dX12_readConditionOne_65 (by decide) rfl ?_
        refine g_aload_n X dX12_readConditionOne_67 2 rfl ?_
        refine g_dup X rfl dX12_readConditionOne_68 ?_
        refine g_getI X fM_114 rfl dX12_readConditionOne_69 h (fun v21 h => ?_)
        refine g_iconst X dX12_readConditionOne_72 ?_
        refine g_iadd X dX12_readConditionOne_73 ?_
        refine g_putI X fM_114w rfl dX12_readConditionOne_74 h (fun t22 h => ?_)
        refine g_iload X dX12_readConditionOne_77 0 rfl ?_
        refine g_aload_n X dX12_readConditionOne_79 2 rfl ?_
        refine g_getR X fM_31 rfl dX12_readConditionOne_80 ?_
        refine g_aload_n X dX12_readConditionOne_83 2 rfl ?_
        refine g_getI X fM_114 rfl dX12_readConditionOne_84 h (fun v23 h => ?_)
        refine g_iconst X dX12_readConditionOne_87 ?_
        refine g_isub X dX12_readConditionOne_88 ?_
        refine g_iald X aM_31 dX12_readConditionOne_89 h (fun v24 h => ?_)
        refine g_sipush X dX12_readConditionOne_90 (by decide) ?_
        refine g_isub X dX12_readConditionOne_93 ?_
        refine g_icmp_ne (tgt := 101) X dX12_readConditionOne_94 (by decide) h (fun h => ?_) (fun h => ?_)
        · refine g_iconst X dX12_readConditionOne_101 ?_
          exact g_zret X h dX12_readConditionOne_102
        · refine g_iconst X dX12_readConditionOne_97 ?_
          refine g_goto (tgt := 102) X dX12_readConditionOne_98 (by decide) ?_
          exact g_zret X h dX12_readConditionOne_102
    · refine g_aload_n X dX12_readConditionOne_46 1 rfl ?_
      refine g_callI (rest := []) X (fun u9 h9 => cp_X12_isHome l E r N t4 u9 h9) yy_X12_isHome yi_X12_isHome wdM_RX12_523 0 12 (gW_at oM) rfl rfl rfl (Nat.le_of_ble_eq_true rfl) dX12_readConditionOne_47 ⟨by show 0 + 1 ≤ D9 + 1 + 104; omega, by show 8 + (3 + 11) + 0 ≤ 60 * (D9 + 1) + 6110; omega⟩ ⟨rfl, rfl⟩ h (fun v26 t25 h => ?_)
      exact g_zret X h dX12_readConditionOne_50
  · refine g_aload_n X dX12_readConditionOne_26 1 rfl ?_
    refine g_lload_n X dX12_readConditionOne_27 2 rfl ?_
    refine g_callI (rest := []) X (fun u9 h9 => ho_readConditionOne a0 t4 u9 h9) yy_X12_readConditionOne yi_X12_readConditionOne wdM_RX12_520 0 12 (gW_at oM) rfl rfl rfl (Nat.le_of_ble_eq_true rfl) dX12_readConditionOne_28 ⟨by show D9 + 104 + 1 ≤ D9 + 1 + 104; omega, by show 8 + (5 + 11) + (60 * D9 + 6110) ≤ 60 * (D9 + 1) + 6110; omega⟩ ⟨rfl, rfl⟩ h (fun v28 t27 h => ?_)
    refine g_if_ne (tgt := 38) X dX12_readConditionOne_31 (by decide) h (fun h => ?_) (fun h => ?_)
    · refine g_iconst X dX12_readConditionOne_38 ?_
      exact g_zret X h dX12_readConditionOne_39
    · refine g_iconst X dX12_readConditionOne_34 ?_
      refine g_goto (tgt := 39) X dX12_readConditionOne_35 (by decide) ?_
      exact g_zret X h dX12_readConditionOne_39
set_option maxHeartbeats 4000000 in
set_option maxRecDepth 100000 in
theorem cpo_X12_readConditionOne (l : Launch) (E : cE) (r : Nat → Nat) (N : Nat) (D9 : Nat) (fo_readConditionOne : (Int64 → St → Option (Int × St))) (fo_readCondition : (Int64 → St → Option (Int × St))) (ho_readConditionOne : ∀ (a0 : Int64) (t : St) (z : Int × St), fo_readConditionOne a0 t = some z → cM l E yX12_readConditionOne cX12_readConditionOne 5 (some .boolean) (rmS_readCondition D9) [.ref (r 200), .long a0] (gW E r shM t) (gqI E (gW E r shM) z)) (ho_readCondition : ∀ (a0 : Int64) (t : St) (z : Int × St), fo_readCondition a0 t = some z → cM l E yX12_readCondition cX12_readCondition 5 (some .boolean) (rmS_readCondition D9) [.ref (r 200), .long a0] (gW E r shM t) (gqI E (gW E r shM) z)) (a0 : Int64) (t : St) (z : Int × St) (h : o_X12_readConditionOne N fo_readConditionOne fo_readCondition a0 t = some z) : cM l E yX12_readConditionOne cX12_readConditionOne 5 (some .boolean) (rmS_readCondition (D9 + 1)) [.ref (r 200), .long a0] (gW E r shM t) (gqI E (gW E r shM) z) := by
  refine g_of (w := gW E r shM) (by decide) (Nat.le_of_ble_eq_true rfl) ?_
  intro p e s m below meth c A X
  exact g_sub (lv' := [(0, .ref (r 200)), (1, .long a0)]) [0, 1] rfl (b_o_X12_readConditionOne ho_readConditionOne ho_readCondition X h)
def rec_readCondition (N : Nat) : Nat → (Int64 → St → Option (Int × St)) × (Int64 → St → Option (Int × St)) × (Int64 → St → Option (Int × St))
  | 0 => (fun _ _ => none, fun _ _ => none, fun _ _ => none)
  | D + 1 => (o_X12_readCondition N (rec_readCondition N D).2.1, o_X12_readConditionAnd N (rec_readCondition N D).2.2, o_X12_readConditionOne N (rec_readCondition N D).2.2 (rec_readCondition N D).1)
theorem rec_readCondition_ok (l : Launch) (E : cE) (r : Nat → Nat) (N : Nat) : ∀ D : Nat, (∀ (a0 : Int64) (t : St) (z : Int × St), (rec_readCondition N D).1 a0 t = some z → cM l E yX12_readCondition cX12_readCondition 5 (some .boolean) (rmS_readCondition D) [.ref (r 200), .long a0] (gW E r shM t) (gqI E (gW E r shM) z)) ∧ (∀ (a0 : Int64) (t : St) (z : Int × St), (rec_readCondition N D).2.1 a0 t = some z → cM l E yX12_readConditionAnd cX12_readConditionAnd 5 (some .boolean) (rmS_readCondition D) [.ref (r 200), .long a0] (gW E r shM t) (gqI E (gW E r shM) z)) ∧ (∀ (a0 : Int64) (t : St) (z : Int × St), (rec_readCondition N D).2.2 a0 t = some z → cM l E yX12_readConditionOne cX12_readConditionOne 5 (some .boolean) (rmS_readCondition D) [.ref (r 200), .long a0] (gW E r shM t) (gqI E (gW E r shM) z)) := by
  intro D
  induction D with
  | zero => exact ⟨fun _ _ _ h => (by cases h), fun _ _ _ h => (by cases h), fun _ _ _ h => (by cases h)⟩
  | succ D ih => exact ⟨fun a0 t z h => cpo_X12_readCondition l E r N D _ ih.2.1 a0 t z h, fun a0 t z h => cpo_X12_readConditionAnd l E r N D _ ih.2.2 a0 t z h, fun a0 t z h => cpo_X12_readConditionOne l E r N D _ _ ih.2.2 ih.1 a0 t z h⟩
def f_X12_readCondition (N : Nat) (a0 : Int64) (t : St) : Option (Int × St) := (rec_readCondition N 100).1 a0 t
abbrev rm_f_X12_readCondition : Room := { frames := 204, cells := 0, slots := 0, locals := 12110 }
theorem cp_X12_readCondition (l : Launch) (E : cE) (r : Nat → Nat) (N : Nat) (a0 : Int64) (t : St) (z : Int × St) (h : f_X12_readCondition N a0 t = some z) : cM l E yX12_readCondition cX12_readCondition 5 (some .boolean) rm_f_X12_readCondition [.ref (r 200), .long a0] (gW E r shM t) (gqI E (gW E r shM) z) := (rec_readCondition_ok l E r N 100).1 a0 t z h
def f_X12_readConditionAnd (N : Nat) (a0 : Int64) (t : St) : Option (Int × St) := (rec_readCondition N 100).2.1 a0 t
abbrev rm_f_X12_readConditionAnd : Room := { frames := 204, cells := 0, slots := 0, locals := 12110 }
theorem cp_X12_readConditionAnd (l : Launch) (E : cE) (r : Nat → Nat) (N : Nat) (a0 : Int64) (t : St) (z : Int × St) (h : f_X12_readConditionAnd N a0 t = some z) : cM l E yX12_readConditionAnd cX12_readConditionAnd 5 (some .boolean) rm_f_X12_readConditionAnd [.ref (r 200), .long a0] (gW E r shM t) (gqI E (gW E r shM) z) := (rec_readCondition_ok l E r N 100).2.1 a0 t z h
def f_X12_readConditionOne (N : Nat) (a0 : Int64) (t : St) : Option (Int × St) := (rec_readCondition N 100).2.2 a0 t
abbrev rm_f_X12_readConditionOne : Room := { frames := 204, cells := 0, slots := 0, locals := 12110 }
theorem cp_X12_readConditionOne (l : Launch) (E : cE) (r : Nat → Nat) (N : Nat) (a0 : Int64) (t : St) (z : Int × St) (h : f_X12_readConditionOne N a0 t = some z) : cM l E yX12_readConditionOne cX12_readConditionOne 5 (some .boolean) rm_f_X12_readConditionOne [.ref (r 200), .long a0] (gW E r shM t) (gqI E (gW E r shM) z) := (rec_readCondition_ok l E r N 100).2.2 a0 t z h
theorem dX12_reckons_0 : decode cX12_reckons 0 = .ok (.aload_n 0, 1) := by decide +kernel
theorem dX12_reckons_1 : decode cX12_reckons 1 = .ok (.iload_n 1, 1) := by decide +kernel
theorem dX12_reckons_2 : decode cX12_reckons 2 = .ok (.putfield 454, 3) := by decide +kernel
theorem dX12_reckons_5 : decode cX12_reckons 5 = .ok (.aload_n 0, 1) := by decide +kernel
theorem dX12_reckons_6 : decode cX12_reckons 6 = .ok (.iconst 0, 1) := by decide +kernel
theorem dX12_reckons_7 : decode cX12_reckons 7 = .ok (.putfield 542, 3) := by decide +kernel
theorem dX12_reckons_10 : decode cX12_reckons 10 = .ok (.iconst 1, 1) := by decide +kernel
theorem dX12_reckons_11 : decode cX12_reckons 11 = .ok (.istore 4, 2) := by decide +kernel
theorem dX12_reckons_13 : decode cX12_reckons 13 = .ok (.iload 4, 2) := by decide +kernel
theorem dX12_reckons_15 : decode cX12_reckons 15 = .ok (.ifCond .eq 95, 3) := by decide +kernel
theorem dX12_reckons_18 : decode cX12_reckons 18 = .ok (.aload_n 0, 1) := by decide +kernel
theorem dX12_reckons_19 : decode cX12_reckons 19 = .ok (.getfield 144, 3) := by decide +kernel
theorem dX12_reckons_22 : decode cX12_reckons 22 = .ok (.aload_n 0, 1) := by decide +kernel
theorem dX12_reckons_23 : decode cX12_reckons 23 = .ok (.getfield 542, 3) := by decide +kernel
theorem dX12_reckons_26 : decode cX12_reckons 26 = .ok (.aload_n 0, 1) := by decide +kernel
theorem dX12_reckons_27 : decode cX12_reckons 27 = .ok (.lload_n 2, 1) := by decide +kernel
theorem dX12_reckons_28 : decode cX12_reckons 28 = .ok (.invokevirtual 460, 3) := by decide +kernel
theorem dX12_reckons_31 : decode cX12_reckons 31 = .ok (.lastore, 1) := by decide +kernel
theorem dX12_reckons_32 : decode cX12_reckons 32 = .ok (.aload_n 0, 1) := by decide +kernel
theorem dX12_reckons_33 : decode cX12_reckons 33 = .ok (.getfield 147, 3) := by decide +kernel
theorem dX12_reckons_36 : decode cX12_reckons 36 = .ok (.aload_n 0, 1) := by decide +kernel
theorem dX12_reckons_37 : decode cX12_reckons 37 = .ok (.getfield 542, 3) := by decide +kernel
theorem dX12_reckons_40 : decode cX12_reckons 40 = .ok (.aload_n 0, 1) := by decide +kernel
theorem dX12_reckons_41 : decode cX12_reckons 41 = .ok (.getfield 65, 3) := by decide +kernel
theorem dX12_reckons_44 : decode cX12_reckons 44 = .ok (.aload_n 0, 1) := by decide +kernel
theorem dX12_reckons_45 : decode cX12_reckons 45 = .ok (.getfield 454, 3) := by decide +kernel
theorem dX12_reckons_48 : decode cX12_reckons 48 = .ok (.iaload, 1) := by decide +kernel
theorem dX12_reckons_49 : decode cX12_reckons 49 = .ok (.sipush 3000, 3) := by decide +kernel
theorem dX12_reckons_52 : decode cX12_reckons 52 = .ok (.isub, 1) := by decide +kernel
theorem dX12_reckons_53 : decode cX12_reckons 53 = .ok (.iastore, 1) := by decide +kernel
theorem dX12_reckons_54 : decode cX12_reckons 54 = .ok (.aload_n 0, 1) := by decide +kernel
theorem dX12_reckons_55 : decode cX12_reckons 55 = .ok (.dup, 1) := by decide +kernel
theorem dX12_reckons_56 : decode cX12_reckons 56 = .ok (.getfield 542, 3) := by decide +kernel
theorem dX12_reckons_59 : decode cX12_reckons 59 = .ok (.iconst 1, 1) := by decide +kernel
theorem dX12_reckons_60 : decode cX12_reckons 60 = .ok (.iadd, 1) := by decide +kernel
theorem dX12_reckons_61 : decode cX12_reckons 61 = .ok (.putfield 542, 3) := by decide +kernel
theorem dX12_reckons_64 : decode cX12_reckons 64 = .ok (.aload_n 0, 1) := by decide +kernel
theorem dX12_reckons_65 : decode cX12_reckons 65 = .ok (.getfield 65, 3) := by decide +kernel
theorem dX12_reckons_68 : decode cX12_reckons 68 = .ok (.aload_n 0, 1) := by decide +kernel
theorem dX12_reckons_69 : decode cX12_reckons 69 = .ok (.getfield 454, 3) := by decide +kernel
theorem dX12_reckons_72 : decode cX12_reckons 72 = .ok (.iconst 1, 1) := by decide +kernel
theorem dX12_reckons_73 : decode cX12_reckons 73 = .ok (.iadd, 1) := by decide +kernel
theorem dX12_reckons_74 : decode cX12_reckons 74 = .ok (.iaload, 1) := by decide +kernel
theorem dX12_reckons_75 : decode cX12_reckons 75 = .ok (.sipush 5038, 3) := by decide +kernel
theorem dX12_reckons_78 : decode cX12_reckons 78 = .ok (.if_icmp .ne 7, 3) := by decide +kernel
theorem dX12_reckons_81 : decode cX12_reckons 81 = .ok (.iconst 1, 1) := by decide +kernel
theorem dX12_reckons_82 : decode cX12_reckons 82 = .ok (.goto 4, 3) := by decide +kernel
theorem dX12_reckons_85 : decode cX12_reckons 85 = .ok (.iconst 0, 1) := by decide +kernel
theorem dX12_reckons_86 : decode cX12_reckons 86 = .ok (.istore 4, 2) := by decide +kernel
theorem dX12_reckons_88 : decode cX12_reckons 88 = .ok (.aload_n 0, 1) := by decide +kernel
theorem dX12_reckons_89 : decode cX12_reckons 89 = .ok (.dup, 1) := by decide +kernel
theorem dX12_reckons_90 : decode cX12_reckons 90 = .ok (.getfield 454, 3) := by decide +kernel
theorem dX12_reckons_93 : decode cX12_reckons 93 = .ok (.iload 4, 2) := by decide +kernel
theorem dX12_reckons_95 : decode cX12_reckons 95 = .ok (.ifCond .eq 7, 3) := by decide +kernel
theorem dX12_reckons_98 : decode cX12_reckons 98 = .ok (.iconst 2, 1) := by decide +kernel
theorem dX12_reckons_99 : decode cX12_reckons 99 = .ok (.goto 4, 3) := by decide +kernel
theorem dX12_reckons_102 : decode cX12_reckons 102 = .ok (.iconst 1, 1) := by decide +kernel
theorem dX12_reckons_103 : decode cX12_reckons 103 = .ok (.iadd, 1) := by decide +kernel
theorem dX12_reckons_104 : decode cX12_reckons 104 = .ok (.putfield 454, 3) := by decide +kernel
theorem dX12_reckons_107 : decode cX12_reckons 107 = .ok (.goto (-94), 3) := by decide +kernel
theorem dX12_reckons_110 : decode cX12_reckons 110 = .ok (.iconst 0, 1) := by decide +kernel
theorem dX12_reckons_111 : decode cX12_reckons 111 = .ok (.istore 5, 2) := by decide +kernel
theorem dX12_reckons_113 : decode cX12_reckons 113 = .ok (.iload 5, 2) := by decide +kernel
theorem dX12_reckons_115 : decode cX12_reckons 115 = .ok (.aload_n 0, 1) := by decide +kernel
theorem dX12_reckons_116 : decode cX12_reckons 116 = .ok (.getfield 231, 3) := by decide +kernel
theorem dX12_reckons_119 : decode cX12_reckons 119 = .ok (.if_icmp .ge 65, 3) := by decide +kernel
theorem dX12_reckons_122 : decode cX12_reckons 122 = .ok (.aload_n 0, 1) := by decide +kernel
theorem dX12_reckons_123 : decode cX12_reckons 123 = .ok (.getfield 150, 3) := by decide +kernel
theorem dX12_reckons_126 : decode cX12_reckons 126 = .ok (.iload 5, 2) := by decide +kernel
theorem dX12_reckons_128 : decode cX12_reckons 128 = .ok (.aload_n 0, 1) := by decide +kernel
theorem dX12_reckons_129 : decode cX12_reckons 129 = .ok (.getfield 71, 3) := by decide +kernel
theorem dX12_reckons_132 : decode cX12_reckons 132 = .ok (.iload 5, 2) := by decide +kernel
theorem dX12_reckons_134 : decode cX12_reckons 134 = .ok (.iaload, 1) := by decide +kernel
theorem dX12_reckons_135 : decode cX12_reckons 135 = .ok (.iastore, 1) := by decide +kernel
theorem dX12_reckons_136 : decode cX12_reckons 136 = .ok (.aload_n 0, 1) := by decide +kernel
theorem dX12_reckons_137 : decode cX12_reckons 137 = .ok (.getfield 153, 3) := by decide +kernel
theorem dX12_reckons_140 : decode cX12_reckons 140 = .ok (.iload 5, 2) := by decide +kernel
theorem dX12_reckons_142 : decode cX12_reckons 142 = .ok (.aload_n 0, 1) := by decide +kernel
theorem dX12_reckons_143 : decode cX12_reckons 143 = .ok (.getfield 74, 3) := by decide +kernel
theorem dX12_reckons_146 : decode cX12_reckons 146 = .ok (.iload 5, 2) := by decide +kernel
theorem dX12_reckons_148 : decode cX12_reckons 148 = .ok (.iaload, 1) := by decide +kernel
theorem dX12_reckons_149 : decode cX12_reckons 149 = .ok (.iastore, 1) := by decide +kernel
theorem dX12_reckons_150 : decode cX12_reckons 150 = .ok (.aload_n 0, 1) := by decide +kernel
theorem dX12_reckons_151 : decode cX12_reckons 151 = .ok (.getfield 156, 3) := by decide +kernel
theorem dX12_reckons_154 : decode cX12_reckons 154 = .ok (.iload 5, 2) := by decide +kernel
theorem dX12_reckons_156 : decode cX12_reckons 156 = .ok (.aload_n 0, 1) := by decide +kernel
theorem dX12_reckons_157 : decode cX12_reckons 157 = .ok (.getfield 77, 3) := by decide +kernel
theorem dX12_reckons_160 : decode cX12_reckons 160 = .ok (.iload 5, 2) := by decide +kernel
theorem dX12_reckons_162 : decode cX12_reckons 162 = .ok (.iaload, 1) := by decide +kernel
theorem dX12_reckons_163 : decode cX12_reckons 163 = .ok (.iastore, 1) := by decide +kernel
theorem dX12_reckons_164 : decode cX12_reckons 164 = .ok (.aload_n 0, 1) := by decide +kernel
theorem dX12_reckons_165 : decode cX12_reckons 165 = .ok (.getfield 159, 3) := by decide +kernel
theorem dX12_reckons_168 : decode cX12_reckons 168 = .ok (.iload 5, 2) := by decide +kernel
theorem dX12_reckons_170 : decode cX12_reckons 170 = .ok (.aload_n 0, 1) := by decide +kernel
theorem dX12_reckons_171 : decode cX12_reckons 171 = .ok (.getfield 80, 3) := by decide +kernel
theorem dX12_reckons_174 : decode cX12_reckons 174 = .ok (.iload 5, 2) := by decide +kernel
theorem dX12_reckons_176 : decode cX12_reckons 176 = .ok (.iaload, 1) := by decide +kernel
theorem dX12_reckons_177 : decode cX12_reckons 177 = .ok (.iastore, 1) := by decide +kernel
theorem dX12_reckons_178 : decode cX12_reckons 178 = .ok (.iinc 5 1, 3) := by decide +kernel
theorem dX12_reckons_181 : decode cX12_reckons 181 = .ok (.goto (-68), 3) := by decide +kernel
theorem dX12_reckons_184 : decode cX12_reckons 184 = .ok (.lconst 0, 1) := by decide +kernel
theorem dX12_reckons_185 : decode cX12_reckons 185 = .ok (.lstore 5, 2) := by decide +kernel
theorem dX12_reckons_187 : decode cX12_reckons 187 = .ok (.iconst 0, 1) := by decide +kernel
theorem dX12_reckons_188 : decode cX12_reckons 188 = .ok (.istore 7, 2) := by decide +kernel
theorem dX12_reckons_190 : decode cX12_reckons 190 = .ok (.iload 7, 2) := by decide +kernel
theorem dX12_reckons_192 : decode cX12_reckons 192 = .ok (.aload_n 0, 1) := by decide +kernel
theorem dX12_reckons_193 : decode cX12_reckons 193 = .ok (.getfield 542, 3) := by decide +kernel
theorem dX12_reckons_196 : decode cX12_reckons 196 = .ok (.if_icmp .ge 162, 3) := by decide +kernel
theorem dX12_reckons_199 : decode cX12_reckons 199 = .ok (.aload_n 0, 1) := by decide +kernel
theorem dX12_reckons_200 : decode cX12_reckons 200 = .ok (.getfield 144, 3) := by decide +kernel
theorem dX12_reckons_203 : decode cX12_reckons 203 = .ok (.iload 7, 2) := by decide +kernel
theorem dX12_reckons_205 : decode cX12_reckons 205 = .ok (.laload, 1) := by decide +kernel
theorem dX12_reckons_206 : decode cX12_reckons 206 = .ok (.lconst 0, 1) := by decide +kernel
theorem dX12_reckons_207 : decode cX12_reckons 207 = .ok (.lcmp, 1) := by decide +kernel
theorem dX12_reckons_208 : decode cX12_reckons 208 = .ok (.ifCond .ne 11, 3) := by decide +kernel
theorem dX12_reckons_211 : decode cX12_reckons 211 = .ok (.aload_n 0, 1) := by decide +kernel
theorem dX12_reckons_212 : decode cX12_reckons 212 = .ok (.iconst 1, 1) := by decide +kernel
theorem dX12_reckons_213 : decode cX12_reckons 213 = .ok (.iconst (-1), 1) := by decide +kernel
theorem dX12_reckons_214 : decode cX12_reckons 214 = .ok (.iconst (-1), 1) := by decide +kernel
theorem dX12_reckons_215 : decode cX12_reckons 215 = .ok (.invokevirtual 545, 3) := by decide +kernel
theorem dX12_reckons_218 : decode cX12_reckons 218 = .ok (.ireturn, 1) := by decide +kernel
theorem dX12_reckons_219 : decode cX12_reckons 219 = .ok (.aload_n 0, 1) := by decide +kernel
theorem dX12_reckons_220 : decode cX12_reckons 220 = .ok (.getfield 144, 3) := by decide +kernel
theorem dX12_reckons_223 : decode cX12_reckons 223 = .ok (.iload 7, 2) := by decide +kernel
theorem dX12_reckons_225 : decode cX12_reckons 225 = .ok (.laload, 1) := by decide +kernel
theorem dX12_reckons_226 : decode cX12_reckons 226 = .ok (.lload 5, 2) := by decide +kernel
theorem dX12_reckons_228 : decode cX12_reckons 228 = .ok (.land, 1) := by decide +kernel
theorem dX12_reckons_229 : decode cX12_reckons 229 = .ok (.lconst 0, 1) := by decide +kernel
theorem dX12_reckons_230 : decode cX12_reckons 230 = .ok (.lcmp, 1) := by decide +kernel
theorem dX12_reckons_231 : decode cX12_reckons 231 = .ok (.ifCond .eq 23, 3) := by decide +kernel
theorem dX12_reckons_234 : decode cX12_reckons 234 = .ok (.aload_n 0, 1) := by decide +kernel
theorem dX12_reckons_235 : decode cX12_reckons 235 = .ok (.iconst 2, 1) := by decide +kernel
theorem dX12_reckons_236 : decode cX12_reckons 236 = .ok (.aload_n 0, 1) := by decide +kernel
theorem dX12_reckons_237 : decode cX12_reckons 237 = .ok (.getfield 144, 3) := by decide +kernel
theorem dX12_reckons_240 : decode cX12_reckons 240 = .ok (.iload 7, 2) := by decide +kernel
theorem dX12_reckons_242 : decode cX12_reckons 242 = .ok (.laload, 1) := by decide +kernel
theorem dX12_reckons_243 : decode cX12_reckons 243 = .ok (.lload 5, 2) := by decide +kernel
theorem dX12_reckons_245 : decode cX12_reckons 245 = .ok (.land, 1) := by decide +kernel
theorem dX12_reckons_246 : decode cX12_reckons 246 = .ok (.invokestatic 548, 3) := by decide +kernel
theorem dX12_reckons_249 : decode cX12_reckons 249 = .ok (.iconst (-1), 1) := by decide +kernel
theorem dX12_reckons_250 : decode cX12_reckons 250 = .ok (.invokevirtual 545, 3) := by decide +kernel
theorem dX12_reckons_253 : decode cX12_reckons 253 = .ok (.ireturn, 1) := by decide +kernel
theorem dX12_reckons_254 : decode cX12_reckons 254 = .ok (.lload 5, 2) := by decide +kernel
theorem dX12_reckons_256 : decode cX12_reckons 256 = .ok (.aload_n 0, 1) := by decide +kernel
theorem dX12_reckons_257 : decode cX12_reckons 257 = .ok (.getfield 144, 3) := by decide +kernel
theorem dX12_reckons_260 : decode cX12_reckons 260 = .ok (.iload 7, 2) := by decide +kernel
theorem dX12_reckons_262 : decode cX12_reckons 262 = .ok (.laload, 1) := by decide +kernel
theorem dX12_reckons_263 : decode cX12_reckons 263 = .ok (.lor, 1) := by decide +kernel
theorem dX12_reckons_264 : decode cX12_reckons 264 = .ok (.lstore 5, 2) := by decide +kernel
theorem dX12_reckons_266 : decode cX12_reckons 266 = .ok (.aload_n 0, 1) := by decide +kernel
theorem dX12_reckons_267 : decode cX12_reckons 267 = .ok (.getfield 41, 3) := by decide +kernel
theorem dX12_reckons_270 : decode cX12_reckons 270 = .ok (.aload_n 0, 1) := by decide +kernel
theorem dX12_reckons_271 : decode cX12_reckons 271 = .ok (.getfield 147, 3) := by decide +kernel
theorem dX12_reckons_274 : decode cX12_reckons 274 = .ok (.iload 7, 2) := by decide +kernel
theorem dX12_reckons_276 : decode cX12_reckons 276 = .ok (.iaload, 1) := by decide +kernel
theorem dX12_reckons_277 : decode cX12_reckons 277 = .ok (.iaload, 1) := by decide +kernel
theorem dX12_reckons_278 : decode cX12_reckons 278 = .ok (.istore 8, 2) := by decide +kernel
theorem dX12_reckons_280 : decode cX12_reckons 280 = .ok (.aload_n 0, 1) := by decide +kernel
theorem dX12_reckons_281 : decode cX12_reckons 281 = .ok (.aload_n 0, 1) := by decide +kernel
theorem dX12_reckons_282 : decode cX12_reckons 282 = .ok (.getfield 144, 3) := by decide +kernel
theorem dX12_reckons_285 : decode cX12_reckons 285 = .ok (.iload 7, 2) := by decide +kernel
theorem dX12_reckons_287 : decode cX12_reckons 287 = .ok (.laload, 1) := by decide +kernel
theorem dX12_reckons_288 : decode cX12_reckons 288 = .ok (.iload 8, 2) := by decide +kernel
theorem dX12_reckons_290 : decode cX12_reckons 290 = .ok (.invokevirtual 526, 3) := by decide +kernel
theorem dX12_reckons_293 : decode cX12_reckons 293 = .ok (.istore 9, 2) := by decide +kernel
theorem dX12_reckons_295 : decode cX12_reckons 295 = .ok (.iload 9, 2) := by decide +kernel
theorem dX12_reckons_297 : decode cX12_reckons 297 = .ok (.iconst 1, 1) := by decide +kernel
theorem dX12_reckons_298 : decode cX12_reckons 298 = .ok (.if_icmp .eq 34, 3) := by decide +kernel
theorem dX12_reckons_301 : decode cX12_reckons 301 = .ok (.aload_n 0, 1) := by decide +kernel
theorem dX12_reckons_302 : decode cX12_reckons 302 = .ok (.invokevirtual 493, 3) := by decide +kernel
theorem dX12_reckons_305 : decode cX12_reckons 305 = .ok (.aload_n 0, 1) := by decide +kernel
theorem dX12_reckons_306 : decode cX12_reckons 306 = .ok (.iload 9, 2) := by decide +kernel
theorem dX12_reckons_308 : decode cX12_reckons 308 = .ok (.ifCond .ne 7, 3) := by decide +kernel
theorem dX12_reckons_311 : decode cX12_reckons 311 = .ok (.iconst 3, 1) := by decide +kernel
theorem dX12_reckons_312 : decode cX12_reckons 312 = .ok (.goto 4, 3) := by decide +kernel
theorem dX12_reckons_315 : decode cX12_reckons 315 = .ok (.iconst 4, 1) := by decide +kernel
theorem dX12_reckons_316 : decode cX12_reckons 316 = .ok (.aload_n 0, 1) := by decide +kernel
theorem dX12_reckons_317 : decode cX12_reckons 317 = .ok (.aload_n 0, 1) := by decide +kernel
theorem dX12_reckons_318 : decode cX12_reckons 318 = .ok (.getfield 144, 3) := by decide +kernel
theorem dX12_reckons_321 : decode cX12_reckons 321 = .ok (.iload 7, 2) := by decide +kernel
theorem dX12_reckons_323 : decode cX12_reckons 323 = .ok (.laload, 1) := by decide +kernel
theorem dX12_reckons_324 : decode cX12_reckons 324 = .ok (.invokevirtual 513, 3) := by decide +kernel
theorem dX12_reckons_327 : decode cX12_reckons 327 = .ok (.iconst (-1), 1) := by decide +kernel
theorem dX12_reckons_328 : decode cX12_reckons 328 = .ok (.invokevirtual 545, 3) := by decide +kernel
theorem dX12_reckons_331 : decode cX12_reckons 331 = .ok (.ireturn, 1) := by decide +kernel
theorem dX12_reckons_332 : decode cX12_reckons 332 = .ok (.aload_n 0, 1) := by decide +kernel
theorem dX12_reckons_333 : decode cX12_reckons 333 = .ok (.aload_n 0, 1) := by decide +kernel
theorem dX12_reckons_334 : decode cX12_reckons 334 = .ok (.getfield 144, 3) := by decide +kernel
theorem dX12_reckons_337 : decode cX12_reckons 337 = .ok (.iload 7, 2) := by decide +kernel
theorem dX12_reckons_339 : decode cX12_reckons 339 = .ok (.laload, 1) := by decide +kernel
theorem dX12_reckons_340 : decode cX12_reckons 340 = .ok (.iload 8, 2) := by decide +kernel
theorem dX12_reckons_342 : decode cX12_reckons 342 = .ok (.aload_n 0, 1) := by decide +kernel
theorem dX12_reckons_343 : decode cX12_reckons 343 = .ok (.getfield 147, 3) := by decide +kernel
theorem dX12_reckons_346 : decode cX12_reckons 346 = .ok (.iload 7, 2) := by decide +kernel
theorem dX12_reckons_348 : decode cX12_reckons 348 = .ok (.iaload, 1) := by decide +kernel
theorem dX12_reckons_349 : decode cX12_reckons 349 = .ok (.invokevirtual 551, 3) := by decide +kernel
theorem dX12_reckons_352 : decode cX12_reckons 352 = .ok (.iinc 7 1, 3) := by decide +kernel
theorem dX12_reckons_355 : decode cX12_reckons 355 = .ok (.goto (-165), 3) := by decide +kernel
theorem dX12_reckons_358 : decode cX12_reckons 358 = .ok (.iconst 0, 1) := by decide +kernel
theorem dX12_reckons_359 : decode cX12_reckons 359 = .ok (.istore 7, 2) := by decide +kernel
theorem dX12_reckons_361 : decode cX12_reckons 361 = .ok (.iload 7, 2) := by decide +kernel
theorem dX12_reckons_363 : decode cX12_reckons 363 = .ok (.aload_n 0, 1) := by decide +kernel
theorem dX12_reckons_364 : decode cX12_reckons 364 = .ok (.getfield 231, 3) := by decide +kernel
theorem dX12_reckons_367 : decode cX12_reckons 367 = .ok (.if_icmp .ge 74, 3) := by decide +kernel
theorem dX12_reckons_370 : decode cX12_reckons 370 = .ok (.iload 7, 2) := by decide +kernel
theorem dX12_reckons_372 : decode cX12_reckons 372 = .ok (.iconst 1, 1) := by decide +kernel
theorem dX12_reckons_373 : decode cX12_reckons 373 = .ok (.iadd, 1) := by decide +kernel
theorem dX12_reckons_374 : decode cX12_reckons 374 = .ok (.istore 8, 2) := by decide +kernel
theorem dX12_reckons_376 : decode cX12_reckons 376 = .ok (.iload 8, 2) := by decide +kernel
theorem dX12_reckons_378 : decode cX12_reckons 378 = .ok (.aload_n 0, 1) := by decide +kernel
theorem dX12_reckons_379 : decode cX12_reckons 379 = .ok (.getfield 231, 3) := by decide +kernel
theorem dX12_reckons_382 : decode cX12_reckons 382 = .ok (.if_icmp .ge 53, 3) := by decide +kernel
theorem dX12_reckons_385 : decode cX12_reckons 385 = .ok (.aload_n 0, 1) := by decide +kernel
theorem dX12_reckons_386 : decode cX12_reckons 386 = .ok (.getfield 150, 3) := by decide +kernel
theorem dX12_reckons_389 : decode cX12_reckons 389 = .ok (.iload 7, 2) := by decide +kernel
theorem dX12_reckons_391 : decode cX12_reckons 391 = .ok (.iaload, 1) := by decide +kernel
theorem dX12_reckons_392 : decode cX12_reckons 392 = .ok (.aload_n 0, 1) := by decide +kernel
theorem dX12_reckons_393 : decode cX12_reckons 393 = .ok (.getfield 150, 3) := by decide +kernel
theorem dX12_reckons_396 : decode cX12_reckons 396 = .ok (.iload 8, 2) := by decide +kernel
theorem dX12_reckons_398 : decode cX12_reckons 398 = .ok (.iaload, 1) := by decide +kernel
theorem dX12_reckons_399 : decode cX12_reckons 399 = .ok (.if_icmp .ne 30, 3) := by decide +kernel
theorem dX12_reckons_402 : decode cX12_reckons 402 = .ok (.aload_n 0, 1) := by decide +kernel
theorem dX12_reckons_403 : decode cX12_reckons 403 = .ok (.getfield 153, 3) := by decide +kernel
theorem dX12_reckons_406 : decode cX12_reckons 406 = .ok (.iload 7, 2) := by decide +kernel
theorem dX12_reckons_408 : decode cX12_reckons 408 = .ok (.iaload, 1) := by decide +kernel
theorem dX12_reckons_409 : decode cX12_reckons 409 = .ok (.aload_n 0, 1) := by decide +kernel
theorem dX12_reckons_410 : decode cX12_reckons 410 = .ok (.getfield 153, 3) := by decide +kernel
theorem dX12_reckons_413 : decode cX12_reckons 413 = .ok (.iload 8, 2) := by decide +kernel
theorem dX12_reckons_415 : decode cX12_reckons 415 = .ok (.iaload, 1) := by decide +kernel
theorem dX12_reckons_416 : decode cX12_reckons 416 = .ok (.if_icmp .ne 13, 3) := by decide +kernel
theorem dX12_reckons_419 : decode cX12_reckons 419 = .ok (.aload_n 0, 1) := by decide +kernel
theorem dX12_reckons_420 : decode cX12_reckons 420 = .ok (.iconst 5, 1) := by decide +kernel
theorem dX12_reckons_421 : decode cX12_reckons 421 = .ok (.iload 7, 2) := by decide +kernel
theorem dX12_reckons_423 : decode cX12_reckons 423 = .ok (.iload 8, 2) := by decide +kernel
theorem dX12_reckons_425 : decode cX12_reckons 425 = .ok (.invokevirtual 545, 3) := by decide +kernel
theorem dX12_reckons_428 : decode cX12_reckons 428 = .ok (.ireturn, 1) := by decide +kernel
theorem dX12_reckons_429 : decode cX12_reckons 429 = .ok (.iinc 8 1, 3) := by decide +kernel
theorem dX12_reckons_432 : decode cX12_reckons 432 = .ok (.goto (-56), 3) := by decide +kernel
theorem dX12_reckons_435 : decode cX12_reckons 435 = .ok (.iinc 7 1, 3) := by decide +kernel
theorem dX12_reckons_438 : decode cX12_reckons 438 = .ok (.goto (-77), 3) := by decide +kernel
theorem dX12_reckons_441 : decode cX12_reckons 441 = .ok (.iconst 1, 1) := by decide +kernel
theorem dX12_reckons_442 : decode cX12_reckons 442 = .ok (.ireturn, 1) := by decide +kernel
abbrev rm_f_X12_reckons : Room := { frames := 104, cells := 0, slots := 0, locals := 6110 }
def f_X12_reckons_L13 (N : Nat) (K6 : (St → Option (Int × St))) (y3 : Int64) : Nat → Int → St → Option (Int × St)
  | 0, _, _ => none
  | n9 + 1, x4, t5 =>
    cmpI x4 0 (if x4 = 0 then (K6 t5)
    else (lt1 (t5.1 200 75) fun v7 =>
    bdL (f_X12_readWho N y3 t5) fun v9 t8 =>
    ixI v7 4 (lt1 (pL t8 73 v7.toNat v9) fun t10 =>
    lt1 (t10.1 200 75) fun v11 =>
    lt1 (t10.1 200 114) fun v12 =>
    ixI v12 10100 (lt1 (t10.1 31 v12.toNat) fun v13 =>
    ixI v11 4 (lt1 (pI t10 74 v11.toNat (v13 - 3000)) fun t14 =>
    lt1 (t14.1 200 75) fun v15 =>
    lt1 (pI t14 200 75 (v15 + 1)) fun t16 =>
    lt1 (t16.1 200 114) fun v17 =>
    ixI (v17 + 1) 10100 (lt1 (t16.1 31 (v17 + 1).toNat) fun v18 =>
    jn1 (fun (j19 : Int) (t20 : St) => lt1 (t20.1 200 114) fun v22 =>
    jn1 (fun (j23 : Int) (t24 : St) => lt1 (pI t24 200 114 (v22 + j23)) fun t26 =>
    f_X12_reckons_L13 N K6 y3 n9 j19 t26) fun J25 =>
    cmpI j19 0 (if j19 = 0 then (J25 1 t20)
    else (J25 2 t20))) fun J21 =>
    cmpI v18 5038 (if v18 = 5038 then (J21 1 t16)
    else (J21 0 t16))))))))
def f_X12_reckons_L113 (K30 : (St → Option (Int × St))) : Nat → Int → St → Option (Int × St)
  | 0, _, _ => none
  | n9 + 1, x28, t29 =>
    lt1 (t29.1 200 37) fun v31 =>
    cmpI x28 v31 (if x28 < v31 then (ixI x28 64 (lt1 (t29.1 38 x28.toNat) fun v32 =>
    ixI x28 64 (lt1 (pI t29 76 x28.toNat v32) fun t33 =>
    ixI x28 64 (lt1 (t33.1 39 x28.toNat) fun v34 =>
    ixI x28 64 (lt1 (pI t33 77 x28.toNat v34) fun t35 =>
    ixI x28 64 (lt1 (t35.1 40 x28.toNat) fun v36 =>
    ixI x28 64 (lt1 (pI t35 78 x28.toNat v36) fun t37 =>
    ixI x28 64 (lt1 (t37.1 41 x28.toNat) fun v38 =>
    ixI x28 64 (lt1 (pI t37 79 x28.toNat v38) fun t39 =>
    f_X12_reckons_L113 K30 n9 (x28 + 1) t39)))))))))
    else (K30 t29))
def f_X12_reckons_L190 (N : Nat) (K44 : (St → Option (Int × St))) (K45 : (Int64 → Int → St → Option (Int × St))) (K46 : (Int → Int → St → Option (Int × St))) (K47 : (St → Option (Int × St))) : Nat → Int64 → Int → St → Option (Int × St)
  | 0, _, _, _ => none
  | n9 + 1, x41, x42, t43 =>
    lt1 (t43.1 200 75) fun v48 =>
    cmpI x42 v48 (if x42 < v48 then (ixI x42 4 (lt1 (t43.2 73 x42.toNat) fun v49 =>
    (if v49 = (0 : Int64) then (K44 t43)
    else (ixI x42 4 (lt1 (t43.2 73 x42.toNat) fun v50 =>
    (if (v50 &&& x41) = (0 : Int64) then (ixI x42 4 (lt1 (t43.2 73 x42.toNat) fun v51 =>
    ixI x42 4 (lt1 (t43.1 74 x42.toNat) fun v52 =>
    ixI v52 100 (lt1 (t43.1 23 v52.toNat) fun v53 =>
    ixI x42 4 (lt1 (t43.2 73 x42.toNat) fun v54 =>
    bdI (f_X12_parted N v54 v53 t43) fun v56 t55 =>
    cmpI v56 1 (if v56 = 1 then (ixI x42 4 (lt1 (t55.2 73 x42.toNat) fun v57 =>
    ixI x42 4 (lt1 (t55.1 74 x42.toNat) fun v58 =>
    bdV (f_X12_moves N v57 v53 v58 t55) fun t59 =>
    f_X12_reckons_L190 N K44 K45 K46 K47 n9 (x41 ||| v51) (x42 + 1) t59)))
    else (K46 x42 v56 t55)))))))
    else (K45 x41 x42 t43)))))))
    else (K47 t43))
def f_X12_reckons_L376 (K92 : (Int → St → Option (Int × St))) (K93 : (St → Option (Int × St))) (y89 : Int) : Nat → Int → St → Option (Int × St)
  | 0, _, _ => none
  | n9 + 1, x90, t91 =>
    lt1 (t91.1 200 37) fun v94 =>
    cmpI x90 v94 (if x90 < v94 then (ixI y89 64 (lt1 (t91.1 76 y89.toNat) fun v95 =>
    ixI x90 64 (lt1 (t91.1 76 x90.toNat) fun v96 =>
    jn1 (fun (t97 : St) => f_X12_reckons_L376 K92 K93 y89 n9 (x90 + 1) t97) fun J98 =>
    cmpI v95 v96 (if v95 = v96 then (ixI y89 64 (lt1 (t91.1 77 y89.toNat) fun v99 =>
    ixI x90 64 (lt1 (t91.1 77 x90.toNat) fun v100 =>
    cmpI v99 v100 (if v99 = v100 then (K92 x90 t91)
    else (J98 t91)))))
    else (J98 t91)))))
    else (K93 t91))
def f_X12_reckons_L361 (N : Nat) (K86 : (Int → Int → St → Option (Int × St))) (K87 : (St → Option (Int × St))) : Nat → Int → St → Option (Int × St)
  | 0, _, _ => none
  | n9 + 1, x84, t85 =>
    lt1 (t85.1 200 37) fun v88 =>
    cmpI x84 v88 (if x84 < v88 then (f_X12_reckons_L376 (fun (k101 : Int) (t102 : St) => K86 x84 k101 t102) (fun (t103 : St) => f_X12_reckons_L361 N K86 K87 n9 (x84 + 1) t103) x84 N (x84 + 1) t85)
    else (K87 t85))
def f_X12_reckons (N : Nat) (a0 : Int) (a1 : Int64) (t : St) : Option (Int × St) :=
    lt1 (pI t 200 114 a0) fun t1 =>
    lt1 (pI t1 200 75 0) fun t2 =>
    f_X12_reckons_L13 N (fun (t27 : St) => f_X12_reckons_L113 (fun (t40 : St) => f_X12_reckons_L190 N (fun (t60 : St) => bdI (f_X12_fails N 1 (-1) (-1) t60) fun v62 t61 =>
    boI v62 (some (v62, t61))) (fun (k63 : Int64) (k64 : Int) (t65 : St) => ixI k64 4 (lt1 (t65.2 73 k64.toNat) fun v66 =>
    bdI (f_X12_leastOf N (v66 &&& k63) t65) fun v68 t67 =>
    bdI (f_X12_fails N 2 v68 (-1) t67) fun v70 t69 =>
    boI v70 (some (v70, t69)))) (fun (k71 : Int) (k72 : Int) (t73 : St) => bdV (f_X12_sort N t73) fun t74 =>
    jn1 (fun (j75 : Int) (t76 : St) => ixI k71 4 (lt1 (t76.2 73 k71.toNat) fun v78 =>
    bdI (f_X12_firstOf N v78 t76) fun v80 t79 =>
    bdI (f_X12_fails N j75 v80 (-1) t79) fun v82 t81 =>
    boI v82 (some (v82, t81)))) fun J77 =>
    cmpI k72 0 (if k72 = 0 then (J77 3 t74)
    else (J77 4 t74))) (fun (t83 : St) => f_X12_reckons_L361 N (fun (k104 : Int) (k105 : Int) (t106 : St) => bdI (f_X12_fails N 5 k104 k105 t106) fun v108 t107 =>
    boI v108 (some (v108, t107))) (fun (t109 : St) => boI 1 (some (1, t109))) N 0 t83) N (0 : Int64) 0 t40) N 0 t27) a1 N 1 t2
set_option maxHeartbeats 4000000 in
set_option maxRecDepth 100000 in
theorem t_f_X12_reckons_L13 {p : Program} {l : Launch} {e : Env} {s : State} {m : MethodId} {args : Array Value} {below : List Frame} {meth : Method} {c : Code} {E : cE} {A : Nat → Prop} {r : Nat → Nat} {mc ms : Nat} {z : Int × St} {N : Nat} {K6 : (St → Option (Int × St))} {y3 : Int64} (X : gX p s m meth c cX12_reckons 10 (some .boolean) yX12_reckons args E A) (hK6 : ∀ (t9 : St), K6 t9 = some z → gP p l e rm_f_X12_reckons s m args below meth c E A 10 (MQ below ((gqI E (gW E r shM) z) A) args s mc ms A) (gW E r shM) 110 [(0, .ref (r 200))] [] t9) : ∀ (n9 : Nat) (x4 : Int) (t5 : St), f_X12_reckons_L13 N K6 y3 n9 x4 t5 = some z → gP p l e rm_f_X12_reckons s m args below meth c E A 10 (MQ below ((gqI E (gW E r shM) z) A) args s mc ms A) (gW E r shM) 13 [(0, .ref (r 200)), (2, .long y3), (4, iv x4)] [] t5 := by
  intro n9
  induction n9 with
  | zero => intro x4 t5 h; cases h
  | succ n9 ih =>
    intro x4 t5 h
    unfold f_X12_reckons_L13 at h
    refine g_iload X dX12_reckons_13 2 rfl ?_
    refine g_if_eq (tgt := 110) X dX12_reckons_15 (by decide) h (fun h => ?_) (fun h => ?_)
    · exact g_sub (lv' := [(0, .ref (r 200))]) [0] rfl (hK6 t5 h)
    · refine g_aload_n X dX12_reckons_18 0 rfl ?_
      refine g_getR X fM_73 rfl dX12_reckons_19 ?_
      refine g_aload_n X dX12_reckons_22 0 rfl ?_
      refine g_getI X fM_75 rfl dX12_reckons_23 h (fun v7 h => ?_)
      refine g_aload_n X dX12_reckons_26 0 rfl ?_
      refine g_lload_n X dX12_reckons_27 1 rfl ?_
      refine g_callL (rest := [iv v7, .ref (r 73)]) X (fun u9 h9 => cp_X12_readWho l E r N y3 t5 u9 h9) yy_X12_readWho yi_X12_readWho wdM_RX12_460 0 12 (gW_at oM) rfl rfl rfl (Nat.le_of_ble_eq_true rfl) dX12_reckons_28 ⟨by decide, by decide⟩ ⟨rfl, rfl⟩ h (fun v9 t8 h => ?_)
      refine g_last X aM_73 dX12_reckons_31 h (fun t10 h => ?_)
      refine g_aload_n X dX12_reckons_32 0 rfl ?_
      refine g_getR X fM_74 rfl dX12_reckons_33 ?_
      refine g_aload_n X dX12_reckons_36 0 rfl ?_
      refine g_getI X fM_75 rfl dX12_reckons_37 h (fun v11 h => ?_)
      refine g_aload_n X dX12_reckons_40 0 rfl ?_
      refine g_getR X fM_31 rfl dX12_reckons_41 ?_
      refine g_aload_n X dX12_reckons_44 0 rfl ?_
      refine g_getI X fM_114 rfl dX12_reckons_45 h (fun v12 h => ?_)
      refine g_iald X aM_31 dX12_reckons_48 h (fun v13 h => ?_)
      refine g_sipush X dX12_reckons_49 (by decide) ?_
      refine g_isub X dX12_reckons_52 ?_
      refine g_iast X aM_74 dX12_reckons_53 h (fun t14 h => ?_)
      refine g_aload_n X dX12_reckons_54 0 rfl ?_
      refine g_dup X rfl dX12_reckons_55 ?_
      refine g_getI X fM_75 rfl dX12_reckons_56 h (fun v15 h => ?_)
      refine g_iconst X dX12_reckons_59 ?_
      refine g_iadd X dX12_reckons_60 ?_
      refine g_putI X fM_75w rfl dX12_reckons_61 h (fun t16 h => ?_)
      refine g_aload_n X dX12_reckons_64 0 rfl ?_
      refine g_getR X fM_31 rfl dX12_reckons_65 ?_
      refine g_aload_n X dX12_reckons_68 0 rfl ?_
      refine g_getI X fM_114 rfl dX12_reckons_69 h (fun v17 h => ?_)
      refine g_iconst X dX12_reckons_72 ?_
      refine g_iadd X dX12_reckons_73 ?_
      refine g_iald X aM_31 dX12_reckons_74 h (fun v18 h => ?_)
      refine g_sipush X dX12_reckons_75 (by decide) ?_
      refine g_join (J := fun jj => ∀ (j19 : Int) (t20 : St), jj j19 t20 = some z → gP p l e rm_f_X12_reckons s m args below meth c E A 10 (MQ below ((gqI E (gW E r shM) z) A) args s mc ms A) (gW E r shM) 86 [(0, .ref (r 200)), (2, .long y3)] [iv j19] t20) h (fun j19 t20 h => ?_) (fun J21 hJ21 h => ?_)
      · refine g_istore (lv' := [(4, iv j19), (0, .ref (r 200)), (2, .long y3)]) X dX12_reckons_86 (by decide) rfl ?_
        refine g_aload_n X dX12_reckons_88 1 rfl ?_
        refine g_dup X rfl dX12_reckons_89 ?_
        refine g_getI X fM_114 rfl dX12_reckons_90 h (fun v22 h => ?_)
        refine g_iload X dX12_reckons_93 0 rfl ?_
        refine g_join (J := fun jj => ∀ (j23 : Int) (t24 : St), jj j23 t24 = some z → gP p l e rm_f_X12_reckons s m args below meth c E A 10 (MQ below ((gqI E (gW E r shM) z) A) args s mc ms A) (gW E r shM) 103 [(0, .ref (r 200)), (2, .long y3), (4, iv j19)] [iv j23, iv v22, .ref (r 200)] t24) h (fun j23 t24 h => ?_) (fun J25 hJ25 h => ?_)
        · refine g_iadd X dX12_reckons_103 ?_
          refine g_putI X fM_114w rfl dX12_reckons_104 h (fun t26 h => ?_)
          refine g_goto (tgt := 13) X dX12_reckons_107 (by decide) ?_
          exact g_sub (lv' := [(0, .ref (r 200)), (2, .long y3), (4, iv j19)]) [0, 1, 2] rfl (ih j19 t26 h)
        refine g_if_eq (tgt := 102) X dX12_reckons_95 (by decide) h (fun h => ?_) (fun h => ?_)
        · refine g_iconst X dX12_reckons_102 ?_
          exact g_sub (lv' := [(0, .ref (r 200)), (2, .long y3), (4, iv j19)]) [1, 2, 0] rfl (hJ25 1 t20 h)
        · refine g_iconst X dX12_reckons_98 ?_
          refine g_goto (tgt := 103) X dX12_reckons_99 (by decide) ?_
          exact g_sub (lv' := [(0, .ref (r 200)), (2, .long y3), (4, iv j19)]) [1, 2, 0] rfl (hJ25 2 t20 h)
      refine g_icmp_ne (tgt := 85) X dX12_reckons_78 (by decide) h (fun h => ?_) (fun h => ?_)
      · refine g_iconst X dX12_reckons_85 ?_
        exact g_sub (lv' := [(0, .ref (r 200)), (2, .long y3)]) [0, 1] rfl (hJ21 0 t16 h)
      · refine g_iconst X dX12_reckons_81 ?_
        refine g_goto (tgt := 86) X dX12_reckons_82 (by decide) ?_
        exact g_sub (lv' := [(0, .ref (r 200)), (2, .long y3)]) [0, 1] rfl (hJ21 1 t16 h)
set_option maxHeartbeats 4000000 in
set_option maxRecDepth 100000 in
theorem t_f_X12_reckons_L113 {p : Program} {l : Launch} {e : Env} {s : State} {m : MethodId} {args : Array Value} {below : List Frame} {meth : Method} {c : Code} {E : cE} {A : Nat → Prop} {r : Nat → Nat} {mc ms : Nat} {z : Int × St} {K30 : (St → Option (Int × St))} (X : gX p s m meth c cX12_reckons 10 (some .boolean) yX12_reckons args E A) (hK30 : ∀ (t9 : St), K30 t9 = some z → gP p l e rm_f_X12_reckons s m args below meth c E A 10 (MQ below ((gqI E (gW E r shM) z) A) args s mc ms A) (gW E r shM) 184 [(0, .ref (r 200))] [] t9) : ∀ (n9 : Nat) (x28 : Int) (t29 : St), f_X12_reckons_L113 K30 n9 x28 t29 = some z → gP p l e rm_f_X12_reckons s m args below meth c E A 10 (MQ below ((gqI E (gW E r shM) z) A) args s mc ms A) (gW E r shM) 113 [(0, .ref (r 200)), (5, iv x28)] [] t29 := by
  intro n9
  induction n9 with
  | zero => intro x28 t29 h; cases h
  | succ n9 ih =>
    intro x28 t29 h
    unfold f_X12_reckons_L113 at h
    refine g_iload X dX12_reckons_113 1 rfl ?_
    refine g_aload_n X dX12_reckons_115 0 rfl ?_
    refine g_getI X fM_37 rfl dX12_reckons_116 h (fun v31 h => ?_)
    refine g_icmp_ge (tgt := 184) X dX12_reckons_119 (by decide) h (fun h => ?_) (fun h => ?_)
    · exact g_sub (lv' := [(0, .ref (r 200))]) [0] rfl (hK30 t29 h)
    · refine g_aload_n X dX12_reckons_122 0 rfl ?_
      refine g_getR X fM_76 rfl dX12_reckons_123 ?_
      refine g_iload X dX12_reckons_126 1 rfl ?_
      refine g_aload_n X dX12_reckons_128 0 rfl ?_
      refine g_getR X fM_38 rfl dX12_reckons_129 ?_
      refine g_iload X dX12_reckons_132 1 rfl ?_
      refine g_iald X aM_38 dX12_reckons_134 h (fun v32 h => ?_)
      refine g_iast X aM_76 dX12_reckons_135 h (fun t33 h => ?_)
      refine g_aload_n X dX12_reckons_136 0 rfl ?_
      refine g_getR X fM_77 rfl dX12_reckons_137 ?_
      refine g_iload X dX12_reckons_140 1 rfl ?_
      refine g_aload_n X dX12_reckons_142 0 rfl ?_
      refine g_getR X fM_39 rfl dX12_reckons_143 ?_
      refine g_iload X dX12_reckons_146 1 rfl ?_
      refine g_iald X aM_39 dX12_reckons_148 h (fun v34 h => ?_)
      refine g_iast X aM_77 dX12_reckons_149 h (fun t35 h => ?_)
      refine g_aload_n X dX12_reckons_150 0 rfl ?_
      refine g_getR X fM_78 rfl dX12_reckons_151 ?_
      refine g_iload X dX12_reckons_154 1 rfl ?_
      refine g_aload_n X dX12_reckons_156 0 rfl ?_
      refine g_getR X fM_40 rfl dX12_reckons_157 ?_
      refine g_iload X dX12_reckons_160 1 rfl ?_
      refine g_iald X aM_40 dX12_reckons_162 h (fun v36 h => ?_)
      refine g_iast X aM_78 dX12_reckons_163 h (fun t37 h => ?_)
      refine g_aload_n X dX12_reckons_164 0 rfl ?_
      refine g_getR X fM_79 rfl dX12_reckons_165 ?_
      refine g_iload X dX12_reckons_168 1 rfl ?_
      refine g_aload_n X dX12_reckons_170 0 rfl ?_
      refine g_getR X fM_41 rfl dX12_reckons_171 ?_
      refine g_iload X dX12_reckons_174 1 rfl ?_
      refine g_iald X aM_41 dX12_reckons_176 h (fun v38 h => ?_)
      refine g_iast X aM_79 dX12_reckons_177 h (fun t39 h => ?_)
      refine g_iinc (lv' := [(5, iv (x28 + 1)), (0, .ref (r 200))]) X dX12_reckons_178 (k := 1) rfl (by decide) rfl ?_
      refine g_goto (tgt := 113) X dX12_reckons_181 (by decide) ?_
      exact g_sub (lv' := [(0, .ref (r 200)), (5, iv (x28 + 1))]) [1, 0] rfl (ih (x28 + 1) t39 h)
set_option maxHeartbeats 4000000 in
set_option maxRecDepth 100000 in
theorem t_f_X12_reckons_L190 {p : Program} {l : Launch} {e : Env} {s : State} {m : MethodId} {args : Array Value} {below : List Frame} {meth : Method} {c : Code} {E : cE} {A : Nat → Prop} {r : Nat → Nat} {mc ms : Nat} {z : Int × St} {N : Nat} {K44 : (St → Option (Int × St))} {K45 : (Int64 → Int → St → Option (Int × St))} {K46 : (Int → Int → St → Option (Int × St))} {K47 : (St → Option (Int × St))} (X : gX p s m meth c cX12_reckons 10 (some .boolean) yX12_reckons args E A) (hK44 : ∀ (t9 : St), K44 t9 = some z → gP p l e rm_f_X12_reckons s m args below meth c E A 10 (MQ below ((gqI E (gW E r shM) z) A) args s mc ms A) (gW E r shM) 211 [(0, .ref (r 200))] [] t9) (hK45 : ∀ (q5 : Int64) (q7 : Int) (t9 : St), K45 q5 q7 t9 = some z → gP p l e rm_f_X12_reckons s m args below meth c E A 10 (MQ below ((gqI E (gW E r shM) z) A) args s mc ms A) (gW E r shM) 234 [(0, .ref (r 200)), (5, .long q5), (7, iv q7)] [] t9) (hK46 : ∀ (q7 : Int) (q9 : Int) (t9 : St), K46 q7 q9 t9 = some z → gP p l e rm_f_X12_reckons s m args below meth c E A 10 (MQ below ((gqI E (gW E r shM) z) A) args s mc ms A) (gW E r shM) 301 [(0, .ref (r 200)), (7, iv q7), (9, iv q9)] [] t9) (hK47 : ∀ (t9 : St), K47 t9 = some z → gP p l e rm_f_X12_reckons s m args below meth c E A 10 (MQ below ((gqI E (gW E r shM) z) A) args s mc ms A) (gW E r shM) 358 [(0, .ref (r 200))] [] t9) : ∀ (n9 : Nat) (x41 : Int64) (x42 : Int) (t43 : St), f_X12_reckons_L190 N K44 K45 K46 K47 n9 x41 x42 t43 = some z → gP p l e rm_f_X12_reckons s m args below meth c E A 10 (MQ below ((gqI E (gW E r shM) z) A) args s mc ms A) (gW E r shM) 190 [(0, .ref (r 200)), (5, .long x41), (7, iv x42)] [] t43 := by
  intro n9
  induction n9 with
  | zero => intro x41 x42 t43 h; cases h
  | succ n9 ih =>
    intro x41 x42 t43 h
    unfold f_X12_reckons_L190 at h
    refine g_iload X dX12_reckons_190 2 rfl ?_
    refine g_aload_n X dX12_reckons_192 0 rfl ?_
    refine g_getI X fM_75 rfl dX12_reckons_193 h (fun v48 h => ?_)
    refine g_icmp_ge (tgt := 358) X dX12_reckons_196 (by decide) h (fun h => ?_) (fun h => ?_)
    · exact g_sub (lv' := [(0, .ref (r 200))]) [0] rfl (hK47 t43 h)
    · refine g_aload_n X dX12_reckons_199 0 rfl ?_
      refine g_getR X fM_73 rfl dX12_reckons_200 ?_
      refine g_iload X dX12_reckons_203 2 rfl ?_
      refine g_lald X aM_73 dX12_reckons_205 h (fun v49 h => ?_)
      refine g_lconst (v := 0) X dX12_reckons_206 (by decide) ?_
      refine g_lcmp_ne (tgt := 219) X dX12_reckons_207 dX12_reckons_208 (by decide) h (fun h => ?_) (fun h => ?_)
      · refine g_aload_n X dX12_reckons_219 0 rfl ?_
        refine g_getR X fM_73 rfl dX12_reckons_220 ?_
        refine g_iload X dX12_reckons_223 2 rfl ?_
        refine g_lald X aM_73 dX12_reckons_225 h (fun v50 h => ?_)
        refine g_lload X dX12_reckons_226 1 rfl ?_
        refine g_land X dX12_reckons_228 ?_
        refine g_lconst (v := 0) X dX12_reckons_229 (by decide) ?_
        refine g_lcmp_eq (tgt := 254) X dX12_reckons_230 dX12_reckons_231 (by decide) h (fun h => ?_) (fun h => ?_)
        · refine g_lload X dX12_reckons_254 1 rfl ?_
          refine g_aload_n X dX12_reckons_256 0 rfl ?_
          refine g_getR X fM_73 rfl dX12_reckons_257 ?_
          refine g_iload X dX12_reckons_260 2 rfl ?_
          refine g_lald X aM_73 dX12_reckons_262 h (fun v51 h => ?_)
          refine g_lor X dX12_reckons_263 ?_
          refine g_lstore (lv' := [(5, .long (x41 ||| v51)), (0, .ref (r 200)), (7, iv x42)]) X dX12_reckons_264 (by decide) rfl ?_
          refine g_aload_n X dX12_reckons_266 1 rfl ?_
          refine g_getR X fM_23 rfl dX12_reckons_267 ?_
          refine g_aload_n X dX12_reckons_270 1 rfl ?_
          refine g_getR X fM_74 rfl dX12_reckons_271 ?_
          refine g_iload X dX12_reckons_274 2 rfl ?_
          refine g_iald X aM_74 dX12_reckons_276 h (fun v52 h => ?_)
          refine g_iald X aM_23 dX12_reckons_277 h (fun v53 h => ?_)
          refine g_istore (lv' := [(8, iv v53), (5, .long (x41 ||| v51)), (0, .ref (r 200)), (7, iv x42)]) X dX12_reckons_278 (by decide) rfl ?_
          refine g_aload_n X dX12_reckons_280 2 rfl ?_
          refine g_aload_n X dX12_reckons_281 2 rfl ?_
          refine g_getR X fM_73 rfl dX12_reckons_282 ?_
          refine g_iload X dX12_reckons_285 3 rfl ?_
          refine g_lald X aM_73 dX12_reckons_287 h (fun v54 h => ?_)
          refine g_iload X dX12_reckons_288 0 rfl ?_
          refine g_callI (rest := []) X (fun u9 h9 => cp_X12_parted l E r N v54 v53 t43 u9 h9) yy_X12_parted yi_X12_parted wdM_RX12_526 0 12 (gW_at oM) rfl rfl rfl (Nat.le_of_ble_eq_true rfl) dX12_reckons_290 ⟨by decide, by decide⟩ ⟨rfl, rfl⟩ h (fun v56 t55 h => ?_)
          refine g_istore (lv' := [(9, iv v56), (8, iv v53), (5, .long (x41 ||| v51)), (0, .ref (r 200)), (7, iv x42)]) X dX12_reckons_293 (by decide) rfl ?_
          refine g_iload X dX12_reckons_295 0 rfl ?_
          refine g_iconst X dX12_reckons_297 ?_
          refine g_icmp_eq (tgt := 332) X dX12_reckons_298 (by decide) h (fun h => ?_) (fun h => ?_)
          · refine g_aload_n X dX12_reckons_332 3 rfl ?_
            refine g_aload_n X dX12_reckons_333 3 rfl ?_
            refine g_getR X fM_73 rfl dX12_reckons_334 ?_
            refine g_iload X dX12_reckons_337 4 rfl ?_
            refine g_lald X aM_73 dX12_reckons_339 h (fun v57 h => ?_)
            refine g_iload X dX12_reckons_340 1 rfl ?_
            refine g_aload_n X dX12_reckons_342 3 rfl ?_
            refine g_getR X fM_74 rfl dX12_reckons_343 ?_
            refine g_iload X dX12_reckons_346 4 rfl ?_
            refine g_iald X aM_74 dX12_reckons_348 h (fun v58 h => ?_)
            refine g_callV (rest := []) X (fun u9 h9 => cp_X12_moves l E r N v57 v53 v58 t55 u9 h9) yy_X12_moves yi_X12_moves wdM_RX12_551 0 12 (gW_at oM) rfl rfl rfl (Nat.le_of_ble_eq_true rfl) dX12_reckons_349 ⟨by decide, by decide⟩ ⟨rfl, rfl⟩ h (fun t59 h => ?_)
            refine g_iinc (lv' := [(7, iv (x42 + 1)), (9, iv v56), (8, iv v53), (5, .long (x41 ||| v51)), (0, .ref (r 200))]) X dX12_reckons_352 (k := 4) rfl (by decide) rfl ?_
            refine g_goto (tgt := 190) X dX12_reckons_355 (by decide) ?_
            exact g_sub (lv' := [(0, .ref (r 200)), (5, .long (x41 ||| v51)), (7, iv (x42 + 1))]) [4, 3, 0] rfl (ih (x41 ||| v51) (x42 + 1) t59 h)
          · exact g_sub (lv' := [(0, .ref (r 200)), (7, iv x42), (9, iv v56)]) [3, 4, 0] rfl (hK46 x42 v56 t55 h)
        · exact g_sub (lv' := [(0, .ref (r 200)), (5, .long x41), (7, iv x42)]) [0, 1, 2] rfl (hK45 x41 x42 t43 h)
      · exact g_sub (lv' := [(0, .ref (r 200))]) [0] rfl (hK44 t43 h)
set_option maxHeartbeats 4000000 in
set_option maxRecDepth 100000 in
theorem t_f_X12_reckons_L376 {p : Program} {l : Launch} {e : Env} {s : State} {m : MethodId} {args : Array Value} {below : List Frame} {meth : Method} {c : Code} {E : cE} {A : Nat → Prop} {r : Nat → Nat} {mc ms : Nat} {z : Int × St} {K92 : (Int → St → Option (Int × St))} {K93 : (St → Option (Int × St))} {y89 : Int} (X : gX p s m meth c cX12_reckons 10 (some .boolean) yX12_reckons args E A) (hK92 : ∀ (q8 : Int) (t9 : St), K92 q8 t9 = some z → gP p l e rm_f_X12_reckons s m args below meth c E A 10 (MQ below ((gqI E (gW E r shM) z) A) args s mc ms A) (gW E r shM) 419 [(0, .ref (r 200)), (7, iv y89), (8, iv q8)] [] t9) (hK93 : ∀ (t9 : St), K93 t9 = some z → gP p l e rm_f_X12_reckons s m args below meth c E A 10 (MQ below ((gqI E (gW E r shM) z) A) args s mc ms A) (gW E r shM) 435 [(0, .ref (r 200)), (7, iv y89)] [] t9) : ∀ (n9 : Nat) (x90 : Int) (t91 : St), f_X12_reckons_L376 K92 K93 y89 n9 x90 t91 = some z → gP p l e rm_f_X12_reckons s m args below meth c E A 10 (MQ below ((gqI E (gW E r shM) z) A) args s mc ms A) (gW E r shM) 376 [(0, .ref (r 200)), (7, iv y89), (8, iv x90)] [] t91 := by
  intro n9
  induction n9 with
  | zero => intro x90 t91 h; cases h
  | succ n9 ih =>
    intro x90 t91 h
    unfold f_X12_reckons_L376 at h
    refine g_iload X dX12_reckons_376 2 rfl ?_
    refine g_aload_n X dX12_reckons_378 0 rfl ?_
    refine g_getI X fM_37 rfl dX12_reckons_379 h (fun v94 h => ?_)
    refine g_icmp_ge (tgt := 435) X dX12_reckons_382 (by decide) h (fun h => ?_) (fun h => ?_)
    · exact g_sub (lv' := [(0, .ref (r 200)), (7, iv y89)]) [0, 1] rfl (hK93 t91 h)
    · refine g_aload_n X dX12_reckons_385 0 rfl ?_
      refine g_getR X fM_76 rfl dX12_reckons_386 ?_
      refine g_iload X dX12_reckons_389 1 rfl ?_
      refine g_iald X aM_76 dX12_reckons_391 h (fun v95 h => ?_)
      refine g_aload_n X dX12_reckons_392 0 rfl ?_
      refine g_getR X fM_76 rfl dX12_reckons_393 ?_
      refine g_iload X dX12_reckons_396 2 rfl ?_
      refine g_iald X aM_76 dX12_reckons_398 h (fun v96 h => ?_)
      refine g_join (J := fun jj => ∀ (t97 : St), jj  t97 = some z → gP p l e rm_f_X12_reckons s m args below meth c E A 10 (MQ below ((gqI E (gW E r shM) z) A) args s mc ms A) (gW E r shM) 429 [(0, .ref (r 200)), (7, iv y89), (8, iv x90)] [] t97) h (fun  t97 h => ?_) (fun J98 hJ98 h => ?_)
      · refine g_iinc (lv' := [(8, iv (x90 + 1)), (0, .ref (r 200)), (7, iv y89)]) X dX12_reckons_429 (k := 2) rfl (by decide) rfl ?_
        refine g_goto (tgt := 376) X dX12_reckons_432 (by decide) ?_
        exact g_sub (lv' := [(0, .ref (r 200)), (7, iv y89), (8, iv (x90 + 1))]) [1, 2, 0] rfl (ih (x90 + 1) t97 h)
      refine g_icmp_ne (tgt := 429) X dX12_reckons_399 (by decide) h (fun h => ?_) (fun h => ?_)
      · exact g_sub (lv' := [(0, .ref (r 200)), (7, iv y89), (8, iv x90)]) [0, 1, 2] rfl (hJ98 t91 h)
      · refine g_aload_n X dX12_reckons_402 0 rfl ?_
        refine g_getR X fM_77 rfl dX12_reckons_403 ?_
        refine g_iload X dX12_reckons_406 1 rfl ?_
        refine g_iald X aM_77 dX12_reckons_408 h (fun v99 h => ?_)
        refine g_aload_n X dX12_reckons_409 0 rfl ?_
        refine g_getR X fM_77 rfl dX12_reckons_410 ?_
        refine g_iload X dX12_reckons_413 2 rfl ?_
        refine g_iald X aM_77 dX12_reckons_415 h (fun v100 h => ?_)
        refine g_icmp_ne (tgt := 429) X dX12_reckons_416 (by decide) h (fun h => ?_) (fun h => ?_)
        · exact g_sub (lv' := [(0, .ref (r 200)), (7, iv y89), (8, iv x90)]) [0, 1, 2] rfl (hJ98 t91 h)
        · exact g_sub (lv' := [(0, .ref (r 200)), (7, iv y89), (8, iv x90)]) [0, 1, 2] rfl (hK92 x90 t91 h)
set_option maxHeartbeats 4000000 in
set_option maxRecDepth 100000 in
theorem t_f_X12_reckons_L361 {p : Program} {l : Launch} {e : Env} {s : State} {m : MethodId} {args : Array Value} {below : List Frame} {meth : Method} {c : Code} {E : cE} {A : Nat → Prop} {r : Nat → Nat} {mc ms : Nat} {z : Int × St} {N : Nat} {K86 : (Int → Int → St → Option (Int × St))} {K87 : (St → Option (Int × St))} (X : gX p s m meth c cX12_reckons 10 (some .boolean) yX12_reckons args E A) (hK86 : ∀ (q7 : Int) (q8 : Int) (t9 : St), K86 q7 q8 t9 = some z → gP p l e rm_f_X12_reckons s m args below meth c E A 10 (MQ below ((gqI E (gW E r shM) z) A) args s mc ms A) (gW E r shM) 419 [(0, .ref (r 200)), (7, iv q7), (8, iv q8)] [] t9) (hK87 : ∀ (t9 : St), K87 t9 = some z → gP p l e rm_f_X12_reckons s m args below meth c E A 10 (MQ below ((gqI E (gW E r shM) z) A) args s mc ms A) (gW E r shM) 441 [] [] t9) : ∀ (n9 : Nat) (x84 : Int) (t85 : St), f_X12_reckons_L361 N K86 K87 n9 x84 t85 = some z → gP p l e rm_f_X12_reckons s m args below meth c E A 10 (MQ below ((gqI E (gW E r shM) z) A) args s mc ms A) (gW E r shM) 361 [(0, .ref (r 200)), (7, iv x84)] [] t85 := by
  intro n9
  induction n9 with
  | zero => intro x84 t85 h; cases h
  | succ n9 ih =>
    intro x84 t85 h
    unfold f_X12_reckons_L361 at h
    refine g_iload X dX12_reckons_361 1 rfl ?_
    refine g_aload_n X dX12_reckons_363 0 rfl ?_
    refine g_getI X fM_37 rfl dX12_reckons_364 h (fun v88 h => ?_)
    refine g_icmp_ge (tgt := 441) X dX12_reckons_367 (by decide) h (fun h => ?_) (fun h => ?_)
    · exact g_sub (lv' := []) [] rfl (hK87 t85 h)
    · refine g_iload X dX12_reckons_370 1 rfl ?_
      refine g_iconst X dX12_reckons_372 ?_
      refine g_iadd X dX12_reckons_373 ?_
      refine g_istore (lv' := [(8, iv (x84 + 1)), (0, .ref (r 200)), (7, iv x84)]) X dX12_reckons_374 (by decide) rfl ?_
      refine g_sub (lv' := [(0, .ref (r 200)), (7, iv x84), (8, iv (x84 + 1))]) [1, 2, 0] rfl (t_f_X12_reckons_L376 X (fun k101 t102 h => ?_) (fun t103 h => ?_) N (x84 + 1) t85 h)
      · exact g_sub (lv' := [(0, .ref (r 200)), (7, iv x84), (8, iv k101)]) [0, 1, 2] rfl (hK86 x84 k101 t102 h)
      · refine g_iinc (lv' := [(7, iv (x84 + 1)), (0, .ref (r 200))]) X dX12_reckons_435 (k := 1) rfl (by decide) rfl ?_
        refine g_goto (tgt := 361) X dX12_reckons_438 (by decide) ?_
        exact g_sub (lv' := [(0, .ref (r 200)), (7, iv (x84 + 1))]) [1, 0] rfl (ih (x84 + 1) t103 h)
set_option maxHeartbeats 4000000 in
set_option maxRecDepth 100000 in
theorem b_f_X12_reckons {p : Program} {l : Launch} {e : Env} {s : State} {m : MethodId} {args : Array Value} {below : List Frame} {meth : Method} {c : Code} {E : cE} {A : Nat → Prop} {r : Nat → Nat} {mc ms : Nat} {z : Int × St} {N : Nat} {a0 : Int} {a1 : Int64} {t : St} (X : gX p s m meth c cX12_reckons 10 (some .boolean) yX12_reckons args E A) (h : f_X12_reckons N a0 a1 t = some z) : gP p l e rm_f_X12_reckons s m args below meth c E A 10 (MQ below ((gqI E (gW E r shM) z) A) args s mc ms A) (gW E r shM) 0 [(0, .ref (r 200)), (1, iv a0), (2, .long a1)] [] t := by
  unfold f_X12_reckons at h
  refine g_aload_n X dX12_reckons_0 0 rfl ?_
  refine g_iload_n X dX12_reckons_1 1 rfl ?_
  refine g_putI X fM_114w rfl dX12_reckons_2 h (fun t1 h => ?_)
  refine g_aload_n X dX12_reckons_5 0 rfl ?_
  refine g_iconst X dX12_reckons_6 ?_
  refine g_putI X fM_75w rfl dX12_reckons_7 h (fun t2 h => ?_)
  refine g_iconst X dX12_reckons_10 ?_
  refine g_istore (lv' := [(4, iv 1), (0, .ref (r 200)), (1, iv a0), (2, .long a1)]) X dX12_reckons_11 (by decide) rfl ?_
  refine g_sub (lv' := [(0, .ref (r 200)), (2, .long a1), (4, iv 1)]) [1, 3, 0] rfl (t_f_X12_reckons_L13 X (fun t27 h => ?_) N 1 t2 h)
  · refine g_iconst X dX12_reckons_110 ?_
    refine g_istore (lv' := [(5, iv 0), (0, .ref (r 200))]) X dX12_reckons_111 (by decide) rfl ?_
    refine g_sub (lv' := [(0, .ref (r 200)), (5, iv 0)]) [1, 0] rfl (t_f_X12_reckons_L113 X (fun t40 h => ?_) N 0 t27 h)
    · refine g_lconst (v := 0) X dX12_reckons_184 (by decide) ?_
      refine g_lstore (lv' := [(5, .long (0 : Int64)), (0, .ref (r 200))]) X dX12_reckons_185 (by decide) rfl ?_
      refine g_iconst X dX12_reckons_187 ?_
      refine g_istore (lv' := [(7, iv 0), (5, .long (0 : Int64)), (0, .ref (r 200))]) X dX12_reckons_188 (by decide) rfl ?_
      refine g_sub (lv' := [(0, .ref (r 200)), (5, .long (0 : Int64)), (7, iv 0)]) [2, 1, 0] rfl (t_f_X12_reckons_L190 X (fun t60 h => ?_) (fun k63 k64 t65 h => ?_) (fun k71 k72 t73 h => ?_) (fun t83 h => ?_) N (0 : Int64) 0 t40 h)
      · refine g_aload_n X dX12_reckons_211 0 rfl ?_
        refine g_iconst X dX12_reckons_212 ?_
        refine g_iconst X dX12_reckons_213 ?_
        refine g_iconst X dX12_reckons_214 ?_
        refine g_callI (rest := []) X (fun u9 h9 => cp_X12_fails l E r N 1 (-1) (-1) t60 u9 h9) yy_X12_fails yi_X12_fails wdM_RX12_545 0 12 (gW_at oM) rfl rfl rfl (Nat.le_of_ble_eq_true rfl) dX12_reckons_215 ⟨by decide, by decide⟩ ⟨rfl, rfl⟩ h (fun v62 t61 h => ?_)
        exact g_zret X h dX12_reckons_218
      · refine g_aload_n X dX12_reckons_234 0 rfl ?_
        refine g_iconst X dX12_reckons_235 ?_
        refine g_aload_n X dX12_reckons_236 0 rfl ?_
        refine g_getR X fM_73 rfl dX12_reckons_237 ?_
        refine g_iload X dX12_reckons_240 2 rfl ?_
        refine g_lald X aM_73 dX12_reckons_242 h (fun v66 h => ?_)
        refine g_lload X dX12_reckons_243 1 rfl ?_
        refine g_land X dX12_reckons_245 ?_
        refine g_callsI (rest := [iv 2, .ref (r 200)]) X (fun u9 h9 => cp_X12_leastOf l E r N (v66 &&& k63) t65 u9 h9) yy_X12_leastOf wdT_X12_leastOf wdM_RX12_548 rfl rfl (Nat.le_of_ble_eq_true rfl) dX12_reckons_246 ⟨by decide, by decide⟩ ⟨rfl, rfl⟩ h (fun v68 t67 h => ?_)
        refine g_iconst X dX12_reckons_249 ?_
        refine g_callI (rest := []) X (fun u9 h9 => cp_X12_fails l E r N 2 v68 (-1) t67 u9 h9) yy_X12_fails yi_X12_fails wdM_RX12_545 0 12 (gW_at oM) rfl rfl rfl (Nat.le_of_ble_eq_true rfl) dX12_reckons_250 ⟨by decide, by decide⟩ ⟨rfl, rfl⟩ h (fun v70 t69 h => ?_)
        exact g_zret X h dX12_reckons_253
      · refine g_aload_n X dX12_reckons_301 0 rfl ?_
        refine g_callV (rest := []) X (fun u9 h9 => cp_X12_sort l E r N t73 u9 h9) yy_X12_sort yi_X12_sort wdM_RX12_493 0 12 (gW_at oM) rfl rfl rfl (Nat.le_of_ble_eq_true rfl) dX12_reckons_302 ⟨by decide, by decide⟩ ⟨rfl, rfl⟩ h (fun t74 h => ?_)
        refine g_aload_n X dX12_reckons_305 0 rfl ?_
        refine g_iload X dX12_reckons_306 2 rfl ?_
        refine g_join (J := fun jj => ∀ (j75 : Int) (t76 : St), jj j75 t76 = some z → gP p l e rm_f_X12_reckons s m args below meth c E A 10 (MQ below ((gqI E (gW E r shM) z) A) args s mc ms A) (gW E r shM) 316 [(0, .ref (r 200)), (7, iv k71)] [iv j75, .ref (r 200)] t76) h (fun j75 t76 h => ?_) (fun J77 hJ77 h => ?_)
        · refine g_aload_n X dX12_reckons_316 0 rfl ?_
          refine g_aload_n X dX12_reckons_317 0 rfl ?_
          refine g_getR X fM_73 rfl dX12_reckons_318 ?_
          refine g_iload X dX12_reckons_321 1 rfl ?_
          refine g_lald X aM_73 dX12_reckons_323 h (fun v78 h => ?_)
          refine g_callI (rest := [iv j75, .ref (r 200)]) X (fun u9 h9 => cp_X12_firstOf l E r N v78 t76 u9 h9) yy_X12_firstOf yi_X12_firstOf wdM_RX12_513 0 12 (gW_at oM) rfl rfl rfl (Nat.le_of_ble_eq_true rfl) dX12_reckons_324 ⟨by decide, by decide⟩ ⟨rfl, rfl⟩ h (fun v80 t79 h => ?_)
          refine g_iconst X dX12_reckons_327 ?_
          refine g_callI (rest := []) X (fun u9 h9 => cp_X12_fails l E r N j75 v80 (-1) t79 u9 h9) yy_X12_fails yi_X12_fails wdM_RX12_545 0 12 (gW_at oM) rfl rfl rfl (Nat.le_of_ble_eq_true rfl) dX12_reckons_328 ⟨by decide, by decide⟩ ⟨rfl, rfl⟩ h (fun v82 t81 h => ?_)
          exact g_zret X h dX12_reckons_331
        refine g_if_ne (tgt := 315) X dX12_reckons_308 (by decide) h (fun h => ?_) (fun h => ?_)
        · refine g_iconst X dX12_reckons_315 ?_
          exact g_sub (lv' := [(0, .ref (r 200)), (7, iv k71)]) [0, 1] rfl (hJ77 4 t74 h)
        · refine g_iconst X dX12_reckons_311 ?_
          refine g_goto (tgt := 316) X dX12_reckons_312 (by decide) ?_
          exact g_sub (lv' := [(0, .ref (r 200)), (7, iv k71)]) [0, 1] rfl (hJ77 3 t74 h)
      · refine g_iconst X dX12_reckons_358 ?_
        refine g_istore (lv' := [(7, iv 0), (0, .ref (r 200))]) X dX12_reckons_359 (by decide) rfl ?_
        refine g_sub (lv' := [(0, .ref (r 200)), (7, iv 0)]) [1, 0] rfl (t_f_X12_reckons_L361 X (fun k104 k105 t106 h => ?_) (fun t109 h => ?_) N 0 t83 h)
        · refine g_aload_n X dX12_reckons_419 0 rfl ?_
          refine g_iconst X dX12_reckons_420 ?_
          refine g_iload X dX12_reckons_421 1 rfl ?_
          refine g_iload X dX12_reckons_423 2 rfl ?_
          refine g_callI (rest := []) X (fun u9 h9 => cp_X12_fails l E r N 5 k104 k105 t106 u9 h9) yy_X12_fails yi_X12_fails wdM_RX12_545 0 12 (gW_at oM) rfl rfl rfl (Nat.le_of_ble_eq_true rfl) dX12_reckons_425 ⟨by decide, by decide⟩ ⟨rfl, rfl⟩ h (fun v108 t107 h => ?_)
          exact g_zret X h dX12_reckons_428
        · refine g_iconst X dX12_reckons_441 ?_
          exact g_zret X h dX12_reckons_442
set_option maxHeartbeats 4000000 in
set_option maxRecDepth 100000 in
theorem cp_X12_reckons (l : Launch) (E : cE) (r : Nat → Nat) (N : Nat) (a0 : Int) (a1 : Int64) (t : St) (z : Int × St) (h : f_X12_reckons N a0 a1 t = some z) : cM l E yX12_reckons cX12_reckons 10 (some .boolean) rm_f_X12_reckons [.ref (r 200), iv a0, .long a1] (gW E r shM t) (gqI E (gW E r shM) z) := by
  refine g_of (w := gW E r shM) (by decide) (Nat.le_of_ble_eq_true rfl) ?_
  intro p e s m below meth c A X
  exact g_sub (lv' := [(0, .ref (r 200)), (1, iv a0), (2, .long a1)]) [0, 1, 2] rfl (b_f_X12_reckons X h)
theorem yy_X12_reckons : cY yX12_reckons cX12_reckons 10 (some .boolean) 2 := ⟨wdK_X12_reckons, wdZ_RX12, by decide +kernel⟩
theorem yi_X12_reckons : cYi yX12_reckons := ⟨wdN_X12_reckons, wdS_X12_reckons⟩
theorem dX12_dances_0 : decode cX12_dances 0 = .ok (.aload_n 0, 1) := by decide +kernel
theorem dX12_dances_1 : decode cX12_dances 1 = .ok (.iload_n 1, 1) := by decide +kernel
theorem dX12_dances_2 : decode cX12_dances 2 = .ok (.lload_n 2, 1) := by decide +kernel
theorem dX12_dances_3 : decode cX12_dances 3 = .ok (.invokevirtual 559, 3) := by decide +kernel
theorem dX12_dances_6 : decode cX12_dances 6 = .ok (.ifCond .ne 12, 3) := by decide +kernel
theorem dX12_dances_9 : decode cX12_dances 9 = .ok (.aload_n 0, 1) := by decide +kernel
theorem dX12_dances_10 : decode cX12_dances 10 = .ok (.invokevirtual 563, 3) := by decide +kernel
theorem dX12_dances_13 : decode cX12_dances 13 = .ok (.aload_n 0, 1) := by decide +kernel
theorem dX12_dances_14 : decode cX12_dances 14 = .ok (.getfield 533, 3) := by decide +kernel
theorem dX12_dances_17 : decode cX12_dances 17 = .ok (.ireturn, 1) := by decide +kernel
theorem dX12_dances_18 : decode cX12_dances 18 = .ok (.aload_n 0, 1) := by decide +kernel
theorem dX12_dances_19 : decode cX12_dances 19 = .ok (.invokevirtual 566, 3) := by decide +kernel
theorem dX12_dances_22 : decode cX12_dances 22 = .ok (.iconst 0, 1) := by decide +kernel
theorem dX12_dances_23 : decode cX12_dances 23 = .ok (.ireturn, 1) := by decide +kernel
abbrev rm_f_X12_dances : Room := { frames := 105, cells := 0, slots := 0, locals := 6139 }
def f_X12_dances (N : Nat) (a0 : Int) (a1 : Int64) (t : St) : Option (Int × St) :=
    bdI (f_X12_reckons N a0 a1 t) fun v2 t1 =>
    cmpI v2 0 (if v2 = 0 then (bdV (f_X12_notes N t1) fun t4 =>
    lt1 (t4.1 200 70) fun v5 =>
    some (v5, t4))
    else (bdV (f_X12_settles N t1) fun t3 =>
    some (0, t3)))
set_option maxHeartbeats 4000000 in
set_option maxRecDepth 100000 in
theorem b_f_X12_dances {p : Program} {l : Launch} {e : Env} {s : State} {m : MethodId} {args : Array Value} {below : List Frame} {meth : Method} {c : Code} {E : cE} {A : Nat → Prop} {r : Nat → Nat} {mc ms : Nat} {z : Int × St} {N : Nat} {a0 : Int} {a1 : Int64} {t : St} (X : gX p s m meth c cX12_dances 4 (some .int) yX12_dances args E A) (h : f_X12_dances N a0 a1 t = some z) : gP p l e rm_f_X12_dances s m args below meth c E A 4 (MQ below ((gqI E (gW E r shM) z) A) args s mc ms A) (gW E r shM) 0 [(0, .ref (r 200)), (1, iv a0), (2, .long a1)] [] t := by
  unfold f_X12_dances at h
  refine g_aload_n X dX12_dances_0 0 rfl ?_
  refine g_iload_n X dX12_dances_1 1 rfl ?_
  refine g_lload_n X dX12_dances_2 2 rfl ?_
  refine g_callI (rest := []) X (fun u9 h9 => cp_X12_reckons l E r N a0 a1 t u9 h9) yy_X12_reckons yi_X12_reckons wdM_RX12_559 0 12 (gW_at oM) rfl rfl rfl (Nat.le_of_ble_eq_true rfl) dX12_dances_3 ⟨by decide, by decide⟩ ⟨rfl, rfl⟩ h (fun v2 t1 h => ?_)
  refine g_if_ne (tgt := 18) X dX12_dances_6 (by decide) h (fun h => ?_) (fun h => ?_)
  · refine g_aload_n X dX12_dances_18 0 rfl ?_
    refine g_callV (rest := []) X (fun u9 h9 => cp_X12_settles l E r N t1 u9 h9) yy_X12_settles yi_X12_settles wdM_RX12_566 0 12 (gW_at oM) rfl rfl rfl (Nat.le_of_ble_eq_true rfl) dX12_dances_19 ⟨by decide, by decide⟩ ⟨rfl, rfl⟩ h (fun t3 h => ?_)
    refine g_iconst X dX12_dances_22 ?_
    exact g_iret X h dX12_dances_23
  · refine g_aload_n X dX12_dances_9 0 rfl ?_
    refine g_callV (rest := []) X (fun u9 h9 => cp_X12_notes l E r N t1 u9 h9) yy_X12_notes yi_X12_notes wdM_RX12_563 0 12 (gW_at oM) rfl rfl rfl (Nat.le_of_ble_eq_true rfl) dX12_dances_10 ⟨by decide, by decide⟩ ⟨rfl, rfl⟩ h (fun t4 h => ?_)
    refine g_aload_n X dX12_dances_13 0 rfl ?_
    refine g_getI X fM_70 rfl dX12_dances_14 h (fun v5 h => ?_)
    exact g_iret X h dX12_dances_17
set_option maxHeartbeats 4000000 in
set_option maxRecDepth 100000 in
theorem cp_X12_dances (l : Launch) (E : cE) (r : Nat → Nat) (N : Nat) (a0 : Int) (a1 : Int64) (t : St) (z : Int × St) (h : f_X12_dances N a0 a1 t = some z) : cM l E yX12_dances cX12_dances 4 (some .int) rm_f_X12_dances [.ref (r 200), iv a0, .long a1] (gW E r shM t) (gqI E (gW E r shM) z) := by
  refine g_of (w := gW E r shM) (by decide) (Nat.le_of_ble_eq_true rfl) ?_
  intro p e s m below meth c A X
  exact g_sub (lv' := [(0, .ref (r 200)), (1, iv a0), (2, .long a1)]) [0, 1, 2] rfl (b_f_X12_dances X h)
theorem yy_X12_dances : cY yX12_dances cX12_dances 4 (some .int) 2 := ⟨wdK_X12_dances, wdZ_RX12, by decide +kernel⟩
theorem yi_X12_dances : cYi yX12_dances := ⟨wdN_X12_dances, wdS_X12_dances⟩
theorem dX12_call_0 : decode cX12_call 0 = .ok (.aload_n 0, 1) := by decide +kernel
theorem dX12_call_1 : decode cX12_call 1 = .ok (.invokevirtual 425, 3) := by decide +kernel
theorem dX12_call_4 : decode cX12_call 4 = .ok (.aload_n 0, 1) := by decide +kernel
theorem dX12_call_5 : decode cX12_call 5 = .ok (.iconst 2, 1) := by decide +kernel
theorem dX12_call_6 : decode cX12_call 6 = .ok (.putfield 311, 3) := by decide +kernel
theorem dX12_call_9 : decode cX12_call 9 = .ok (.aload_n 0, 1) := by decide +kernel
theorem dX12_call_10 : decode cX12_call 10 = .ok (.invokevirtual 395, 3) := by decide +kernel
theorem dX12_call_13 : decode cX12_call 13 = .ok (.ifCond .eq 22, 3) := by decide +kernel
theorem dX12_call_16 : decode cX12_call 16 = .ok (.aload_n 0, 1) := by decide +kernel
theorem dX12_call_17 : decode cX12_call 17 = .ok (.getfield 278, 3) := by decide +kernel
theorem dX12_call_20 : decode cX12_call 20 = .ok (.ifCond .eq 11, 3) := by decide +kernel
theorem dX12_call_23 : decode cX12_call 23 = .ok (.aload_n 0, 1) := by decide +kernel
theorem dX12_call_24 : decode cX12_call 24 = .ok (.iconst 1, 1) := by decide +kernel
theorem dX12_call_25 : decode cX12_call 25 = .ok (.invokevirtual 317, 3) := by decide +kernel
theorem dX12_call_28 : decode cX12_call 28 = .ok (.ifCond .eq 7, 3) := by decide +kernel
theorem dX12_call_31 : decode cX12_call 31 = .ok (.iconst 1, 1) := by decide +kernel
theorem dX12_call_32 : decode cX12_call 32 = .ok (.goto 4, 3) := by decide +kernel
theorem dX12_call_35 : decode cX12_call 35 = .ok (.iconst 0, 1) := by decide +kernel
theorem dX12_call_36 : decode cX12_call 36 = .ok (.istore_n 1, 1) := by decide +kernel
theorem dX12_call_37 : decode cX12_call 37 = .ok (.aload_n 0, 1) := by decide +kernel
theorem dX12_call_38 : decode cX12_call 38 = .ok (.iconst 0, 1) := by decide +kernel
theorem dX12_call_39 : decode cX12_call 39 = .ok (.putfield 311, 3) := by decide +kernel
theorem dX12_call_42 : decode cX12_call 42 = .ok (.iload_n 1, 1) := by decide +kernel
theorem dX12_call_43 : decode cX12_call 43 = .ok (.ifCond .ne 11, 3) := by decide +kernel
theorem dX12_call_46 : decode cX12_call 46 = .ok (.bipush (-2), 2) := by decide +kernel
theorem dX12_call_48 : decode cX12_call 48 = .ok (.aload_n 0, 1) := by decide +kernel
theorem dX12_call_49 : decode cX12_call 49 = .ok (.getfield 275, 3) := by decide +kernel
theorem dX12_call_52 : decode cX12_call 52 = .ok (.isub, 1) := by decide +kernel
theorem dX12_call_53 : decode cX12_call 53 = .ok (.ireturn, 1) := by decide +kernel
theorem dX12_call_54 : decode cX12_call 54 = .ok (.aload_n 0, 1) := by decide +kernel
theorem dX12_call_55 : decode cX12_call 55 = .ok (.getfield 65, 3) := by decide +kernel
theorem dX12_call_58 : decode cX12_call 58 = .ok (.sipush 6000, 3) := by decide +kernel
theorem dX12_call_61 : decode cX12_call 61 = .ok (.aload_n 0, 1) := by decide +kernel
theorem dX12_call_62 : decode cX12_call 62 = .ok (.getfield 320, 3) := by decide +kernel
theorem dX12_call_65 : decode cX12_call 65 = .ok (.iadd, 1) := by decide +kernel
theorem dX12_call_66 : decode cX12_call 66 = .ok (.sipush 5000, 3) := by decide +kernel
theorem dX12_call_69 : decode cX12_call 69 = .ok (.iastore, 1) := by decide +kernel
theorem dX12_call_70 : decode cX12_call 70 = .ok (.aload_n 0, 1) := by decide +kernel
theorem dX12_call_71 : decode cX12_call 71 = .ok (.invokevirtual 577, 3) := by decide +kernel
theorem dX12_call_74 : decode cX12_call 74 = .ok (.aload_n 0, 1) := by decide +kernel
theorem dX12_call_75 : decode cX12_call 75 = .ok (.sipush 6000, 3) := by decide +kernel
theorem dX12_call_78 : decode cX12_call 78 = .ok (.aload_n 0, 1) := by decide +kernel
theorem dX12_call_79 : decode cX12_call 79 = .ok (.invokevirtual 580, 3) := by decide +kernel
theorem dX12_call_82 : decode cX12_call 82 = .ok (.invokevirtual 584, 3) := by decide +kernel
theorem dX12_call_85 : decode cX12_call 85 = .ok (.istore_n 2, 1) := by decide +kernel
theorem dX12_call_86 : decode cX12_call 86 = .ok (.iload_n 2, 1) := by decide +kernel
theorem dX12_call_87 : decode cX12_call 87 = .ok (.ifCond .ne 7, 3) := by decide +kernel
theorem dX12_call_90 : decode cX12_call 90 = .ok (.aload_n 0, 1) := by decide +kernel
theorem dX12_call_91 : decode cX12_call 91 = .ok (.invokevirtual 588, 3) := by decide +kernel
theorem dX12_call_94 : decode cX12_call 94 = .ok (.iload_n 2, 1) := by decide +kernel
theorem dX12_call_95 : decode cX12_call 95 = .ok (.ireturn, 1) := by decide +kernel
abbrev rm_f_X12_call : Room := { frames := 113, cells := 0, slots := 0, locals := 6352 }
def f_X12_call (N : Nat) (t : St) : Option (Int × St) :=
    bdV (f_X12_opensText N t) fun t1 =>
    lt1 (pI t1 200 36 2) fun t2 =>
    bdI (f_X12_stepText N t2) fun v4 t3 =>
    jn1 (fun (j5 : Int) (t6 : St) => lt1 (pI t6 200 36 0) fun t8 =>
    cmpI j5 0 (if j5 = 0 then (lt1 (t8.1 200 4) fun v17 =>
    some ((-2) - v17, t8))
    else (lt1 (t8.1 200 34) fun v9 =>
    ixI (6000 + v9) 10100 (lt1 (pI t8 31 (6000 + v9).toNat 5000) fun t10 =>
    bdV (f_X12_writes N t10) fun t11 =>
    bdL (f_X12_everybody N t11) fun v13 t12 =>
    bdI (f_X12_dances N 6000 v13 t12) fun v15 t14 =>
    cmpI v15 0 (if v15 = 0 then (bdV (f_X12_keeps N t14) fun t16 =>
    some (v15, t16))
    else (some (v15, t14))))))) fun J7 =>
    jn1 (fun (t18 : St) => J7 0 t18) fun J19 =>
    cmpI v4 0 (if v4 = 0 then (J19 t3)
    else (lt1 (t3.1 200 3) fun v20 =>
    jn1 (fun (t21 : St) => J7 1 t21) fun J22 =>
    cmpI v20 0 (if v20 = 0 then (J22 t3)
    else (bdI (f_X12_wrong N 1 t3) fun v24 t23 =>
    cmpI v24 0 (if v24 = 0 then (J19 t23)
    else (J22 t23))))))
set_option maxHeartbeats 4000000 in
set_option maxRecDepth 100000 in
theorem b_f_X12_call {p : Program} {l : Launch} {e : Env} {s : State} {m : MethodId} {args : Array Value} {below : List Frame} {meth : Method} {c : Code} {E : cE} {A : Nat → Prop} {r : Nat → Nat} {mc ms : Nat} {z : Int × St} {N : Nat} {t : St} (X : gX p s m meth c cX12_call 3 (some .int) yX12_call args E A) (h : f_X12_call N t = some z) : gP p l e rm_f_X12_call s m args below meth c E A 3 (MQ below ((gqI E (gW E r shM) z) A) args s mc ms A) (gW E r shM) 0 [(0, .ref (r 200))] [] t := by
  unfold f_X12_call at h
  refine g_aload_n X dX12_call_0 0 rfl ?_
  refine g_callV (rest := []) X (fun u9 h9 => cp_X12_opensText l E r N t u9 h9) yy_X12_opensText yi_X12_opensText wdM_RX12_425 0 12 (gW_at oM) rfl rfl rfl (Nat.le_of_ble_eq_true rfl) dX12_call_1 ⟨by decide, by decide⟩ ⟨rfl, rfl⟩ h (fun t1 h => ?_)
  refine g_aload_n X dX12_call_4 0 rfl ?_
  refine g_iconst X dX12_call_5 ?_
  refine g_putI X fM_36w rfl dX12_call_6 h (fun t2 h => ?_)
  refine g_aload_n X dX12_call_9 0 rfl ?_
  refine g_callI (rest := []) X (fun u9 h9 => cp_X12_stepText l E r N t2 u9 h9) yy_X12_stepText yi_X12_stepText wdM_RX12_395 0 12 (gW_at oM) rfl rfl rfl (Nat.le_of_ble_eq_true rfl) dX12_call_10 ⟨by decide, by decide⟩ ⟨rfl, rfl⟩ h (fun v4 t3 h => ?_)
  refine g_join (J := fun jj => ∀ (j5 : Int) (t6 : St), jj j5 t6 = some z → gP p l e rm_f_X12_call s m args below meth c E A 3 (MQ below ((gqI E (gW E r shM) z) A) args s mc ms A) (gW E r shM) 36 [(0, .ref (r 200))] [iv j5] t6) h (fun j5 t6 h => ?_) (fun J7 hJ7 h => ?_)
  · refine g_istore_n (lv' := [(1, iv j5), (0, .ref (r 200))]) X dX12_call_36 rfl (by decide) rfl ?_
    refine g_aload_n X dX12_call_37 1 rfl ?_
    refine g_iconst X dX12_call_38 ?_
    refine g_putI X fM_36w rfl dX12_call_39 h (fun t8 h => ?_)
    refine g_iload_n X dX12_call_42 0 rfl ?_
    refine g_if_ne (tgt := 54) X dX12_call_43 (by decide) h (fun h => ?_) (fun h => ?_)
    · refine g_aload_n X dX12_call_54 1 rfl ?_
      refine g_getR X fM_31 rfl dX12_call_55 ?_
      refine g_sipush X dX12_call_58 (by decide) ?_
      refine g_aload_n X dX12_call_61 1 rfl ?_
      refine g_getI X fM_34 rfl dX12_call_62 h (fun v9 h => ?_)
      refine g_iadd X dX12_call_65 ?_
      refine g_sipush X dX12_call_66 (by decide) ?_
      refine g_iast X aM_31 dX12_call_69 h (fun t10 h => ?_)
      refine g_aload_n X dX12_call_70 1 rfl ?_
      refine g_callV (rest := []) X (fun u9 h9 => cp_X12_writes l E r N t10 u9 h9) yy_X12_writes yi_X12_writes wdM_RX12_577 0 12 (gW_at oM) rfl rfl rfl (Nat.le_of_ble_eq_true rfl) dX12_call_71 ⟨by decide, by decide⟩ ⟨rfl, rfl⟩ h (fun t11 h => ?_)
      refine g_aload_n X dX12_call_74 1 rfl ?_
      refine g_sipush X dX12_call_75 (by decide) ?_
      refine g_aload_n X dX12_call_78 1 rfl ?_
      refine g_callL (rest := [iv 6000, .ref (r 200)]) X (fun u9 h9 => cp_X12_everybody l E r N t11 u9 h9) yy_X12_everybody yi_X12_everybody wdM_RX12_580 0 12 (gW_at oM) rfl rfl rfl (Nat.le_of_ble_eq_true rfl) dX12_call_79 ⟨by decide, by decide⟩ ⟨rfl, rfl⟩ h (fun v13 t12 h => ?_)
      refine g_callI (rest := []) X (fun u9 h9 => cp_X12_dances l E r N 6000 v13 t12 u9 h9) yy_X12_dances yi_X12_dances wdM_RX12_584 0 12 (gW_at oM) rfl rfl rfl (Nat.le_of_ble_eq_true rfl) dX12_call_82 ⟨by decide, by decide⟩ ⟨rfl, rfl⟩ h (fun v15 t14 h => ?_)
      refine g_istore_n (lv' := [(2, iv v15), (1, iv j5), (0, .ref (r 200))]) X dX12_call_85 rfl (by decide) rfl ?_
      refine g_iload_n X dX12_call_86 0 rfl ?_
      refine g_if_ne (tgt := 94) X dX12_call_87 (by decide) h (fun h => ?_) (fun h => ?_)
      · refine g_iload_n X dX12_call_94 0 rfl ?_
        exact g_iret X h dX12_call_95
      · refine g_aload_n X dX12_call_90 2 rfl ?_
        refine g_callV (rest := []) X (fun u9 h9 => cp_X12_keeps l E r N t14 u9 h9) yy_X12_keeps yi_X12_keeps wdM_RX12_588 0 12 (gW_at oM) rfl rfl rfl (Nat.le_of_ble_eq_true rfl) dX12_call_91 ⟨by decide, by decide⟩ ⟨rfl, rfl⟩ h (fun t16 h => ?_)
        refine g_iload_n X dX12_call_94 0 rfl ?_
        exact g_iret X h dX12_call_95
    · refine g_bipush X dX12_call_46 (by decide) ?_
      refine g_aload_n X dX12_call_48 1 rfl ?_
      refine g_getI X fM_4 rfl dX12_call_49 h (fun v17 h => ?_)
      refine g_isub X dX12_call_52 ?_
      exact g_iret X h dX12_call_53
  refine g_join (J := fun jj => ∀ (t18 : St), jj  t18 = some z → gP p l e rm_f_X12_call s m args below meth c E A 3 (MQ below ((gqI E (gW E r shM) z) A) args s mc ms A) (gW E r shM) 35 [(0, .ref (r 200))] [] t18) h (fun  t18 h => ?_) (fun J19 hJ19 h => ?_)
  · refine g_iconst X dX12_call_35 ?_
    exact g_sub (lv' := [(0, .ref (r 200))]) [0] rfl (hJ7 0 t18 h)
  refine g_if_eq (tgt := 35) X dX12_call_13 (by decide) h (fun h => ?_) (fun h => ?_)
  · exact g_sub (lv' := [(0, .ref (r 200))]) [0] rfl (hJ19 t3 h)
  · refine g_aload_n X dX12_call_16 0 rfl ?_
    refine g_getI X fM_3 rfl dX12_call_17 h (fun v20 h => ?_)
    refine g_join (J := fun jj => ∀ (t21 : St), jj  t21 = some z → gP p l e rm_f_X12_call s m args below meth c E A 3 (MQ below ((gqI E (gW E r shM) z) A) args s mc ms A) (gW E r shM) 31 [(0, .ref (r 200))] [] t21) h (fun  t21 h => ?_) (fun J22 hJ22 h => ?_)
    · refine g_iconst X dX12_call_31 ?_
      refine g_goto (tgt := 36) X dX12_call_32 (by decide) ?_
      exact g_sub (lv' := [(0, .ref (r 200))]) [0] rfl (hJ7 1 t21 h)
    refine g_if_eq (tgt := 31) X dX12_call_20 (by decide) h (fun h => ?_) (fun h => ?_)
    · exact g_sub (lv' := [(0, .ref (r 200))]) [0] rfl (hJ22 t3 h)
    · refine g_aload_n X dX12_call_23 0 rfl ?_
      refine g_iconst X dX12_call_24 ?_
      refine g_callI (rest := []) X (fun u9 h9 => cp_X12_wrong l E r N 1 t3 u9 h9) yy_X12_wrong yi_X12_wrong wdM_RX12_317 0 12 (gW_at oM) rfl rfl rfl (Nat.le_of_ble_eq_true rfl) dX12_call_25 ⟨by decide, by decide⟩ ⟨rfl, rfl⟩ h (fun v24 t23 h => ?_)
      refine g_if_eq (tgt := 35) X dX12_call_28 (by decide) h (fun h => ?_) (fun h => ?_)
      · exact g_sub (lv' := [(0, .ref (r 200))]) [0] rfl (hJ19 t23 h)
      · exact g_sub (lv' := [(0, .ref (r 200))]) [0] rfl (hJ22 t23 h)
set_option maxHeartbeats 4000000 in
set_option maxRecDepth 100000 in
theorem cp_X12_call (l : Launch) (E : cE) (r : Nat → Nat) (N : Nat) (t : St) (z : Int × St) (h : f_X12_call N t = some z) : cM l E yX12_call cX12_call 3 (some .int) rm_f_X12_call [.ref (r 200)] (gW E r shM t) (gqI E (gW E r shM) z) := by
  refine g_of (w := gW E r shM) (by decide) (Nat.le_of_ble_eq_true rfl) ?_
  intro p e s m below meth c A X
  exact g_sub (lv' := [(0, .ref (r 200))]) [0] rfl (b_f_X12_call X h)
theorem yy_X12_call : cY yX12_call cX12_call 3 (some .int) 0 := ⟨wdK_X12_call, wdZ_RX12, by decide +kernel⟩
theorem yi_X12_call : cYi yX12_call := ⟨wdN_X12_call, wdS_X12_call⟩
theorem dX12_closes_0 : decode cX12_closes 0 = .ok (.aload_n 0, 1) := by decide +kernel
theorem dX12_closes_1 : decode cX12_closes 1 = .ok (.getfield 245, 3) := by decide +kernel
theorem dX12_closes_4 : decode cX12_closes 4 = .ok (.iconst 1, 1) := by decide +kernel
theorem dX12_closes_5 : decode cX12_closes 5 = .ok (.isub, 1) := by decide +kernel
theorem dX12_closes_6 : decode cX12_closes 6 = .ok (.istore_n 2, 1) := by decide +kernel
theorem dX12_closes_7 : decode cX12_closes 7 = .ok (.aload_n 0, 1) := by decide +kernel
theorem dX12_closes_8 : decode cX12_closes 8 = .ok (.getfield 65, 3) := by decide +kernel
theorem dX12_closes_11 : decode cX12_closes 11 = .ok (.aload_n 0, 1) := by decide +kernel
theorem dX12_closes_12 : decode cX12_closes 12 = .ok (.getfield 104, 3) := by decide +kernel
theorem dX12_closes_15 : decode cX12_closes 15 = .ok (.iload_n 2, 1) := by decide +kernel
theorem dX12_closes_16 : decode cX12_closes 16 = .ok (.iaload, 1) := by decide +kernel
theorem dX12_closes_17 : decode cX12_closes 17 = .ok (.iaload, 1) := by decide +kernel
theorem dX12_closes_18 : decode cX12_closes 18 = .ok (.istore_n 3, 1) := by decide +kernel
theorem dX12_closes_19 : decode cX12_closes 19 = .ok (.iload_n 3, 1) := by decide +kernel
theorem dX12_closes_20 : decode cX12_closes 20 = .ok (.bipush 8, 2) := by decide +kernel
theorem dX12_closes_22 : decode cX12_closes 22 = .ok (.if_icmp .eq 9, 3) := by decide +kernel
theorem dX12_closes_25 : decode cX12_closes 25 = .ok (.iload_n 3, 1) := by decide +kernel
theorem dX12_closes_26 : decode cX12_closes 26 = .ok (.bipush 9, 2) := by decide +kernel
theorem dX12_closes_28 : decode cX12_closes 28 = .ok (.if_icmp .ne 13, 3) := by decide +kernel
theorem dX12_closes_31 : decode cX12_closes 31 = .ok (.aload_n 0, 1) := by decide +kernel
theorem dX12_closes_32 : decode cX12_closes 32 = .ok (.getfield 107, 3) := by decide +kernel
theorem dX12_closes_35 : decode cX12_closes 35 = .ok (.iload_n 2, 1) := by decide +kernel
theorem dX12_closes_36 : decode cX12_closes 36 = .ok (.dup2, 1) := by decide +kernel
theorem dX12_closes_37 : decode cX12_closes 37 = .ok (.iaload, 1) := by decide +kernel
theorem dX12_closes_38 : decode cX12_closes 38 = .ok (.iconst 1, 1) := by decide +kernel
theorem dX12_closes_39 : decode cX12_closes 39 = .ok (.isub, 1) := by decide +kernel
theorem dX12_closes_40 : decode cX12_closes 40 = .ok (.iastore, 1) := by decide +kernel
theorem dX12_closes_41 : decode cX12_closes 41 = .ok (.iload_n 3, 1) := by decide +kernel
theorem dX12_closes_42 : decode cX12_closes 42 = .ok (.bipush 8, 2) := by decide +kernel
theorem dX12_closes_44 : decode cX12_closes 44 = .ok (.if_icmp .eq 9, 3) := by decide +kernel
theorem dX12_closes_47 : decode cX12_closes 47 = .ok (.iload_n 3, 1) := by decide +kernel
theorem dX12_closes_48 : decode cX12_closes 48 = .ok (.bipush 9, 2) := by decide +kernel
theorem dX12_closes_50 : decode cX12_closes 50 = .ok (.if_icmp .ne 12, 3) := by decide +kernel
theorem dX12_closes_53 : decode cX12_closes 53 = .ok (.aload_n 0, 1) := by decide +kernel
theorem dX12_closes_54 : decode cX12_closes 54 = .ok (.getfield 107, 3) := by decide +kernel
theorem dX12_closes_57 : decode cX12_closes 57 = .ok (.iload_n 2, 1) := by decide +kernel
theorem dX12_closes_58 : decode cX12_closes 58 = .ok (.iaload, 1) := by decide +kernel
theorem dX12_closes_59 : decode cX12_closes 59 = .ok (.ifCond .ne 15, 3) := by decide +kernel
theorem dX12_closes_62 : decode cX12_closes 62 = .ok (.aload_n 0, 1) := by decide +kernel
theorem dX12_closes_63 : decode cX12_closes 63 = .ok (.dup, 1) := by decide +kernel
theorem dX12_closes_64 : decode cX12_closes 64 = .ok (.getfield 245, 3) := by decide +kernel
theorem dX12_closes_67 : decode cX12_closes 67 = .ok (.iconst 1, 1) := by decide +kernel
theorem dX12_closes_68 : decode cX12_closes 68 = .ok (.isub, 1) := by decide +kernel
theorem dX12_closes_69 : decode cX12_closes 69 = .ok (.putfield 245, 3) := by decide +kernel
theorem dX12_closes_72 : decode cX12_closes 72 = .ok (.iconst 0, 1) := by decide +kernel
theorem dX12_closes_73 : decode cX12_closes 73 = .ok (.ireturn, 1) := by decide +kernel
theorem dX12_closes_74 : decode cX12_closes 74 = .ok (.aload_n 0, 1) := by decide +kernel
theorem dX12_closes_75 : decode cX12_closes 75 = .ok (.aload_n 0, 1) := by decide +kernel
theorem dX12_closes_76 : decode cX12_closes 76 = .ok (.aload_n 0, 1) := by decide +kernel
theorem dX12_closes_77 : decode cX12_closes 77 = .ok (.getfield 104, 3) := by decide +kernel
theorem dX12_closes_80 : decode cX12_closes 80 = .ok (.iload_n 2, 1) := by decide +kernel
theorem dX12_closes_81 : decode cX12_closes 81 = .ok (.iaload, 1) := by decide +kernel
theorem dX12_closes_82 : decode cX12_closes 82 = .ok (.invokevirtual 611, 3) := by decide +kernel
theorem dX12_closes_85 : decode cX12_closes 85 = .ok (.invokevirtual 614, 3) := by decide +kernel
theorem dX12_closes_88 : decode cX12_closes 88 = .ok (.istore 4, 2) := by decide +kernel
theorem dX12_closes_90 : decode cX12_closes 90 = .ok (.iload 4, 2) := by decide +kernel
theorem dX12_closes_92 : decode cX12_closes 92 = .ok (.ifCond .le 6, 3) := by decide +kernel
theorem dX12_closes_95 : decode cX12_closes 95 = .ok (.iload 4, 2) := by decide +kernel
theorem dX12_closes_97 : decode cX12_closes 97 = .ok (.ireturn, 1) := by decide +kernel
theorem dX12_closes_98 : decode cX12_closes 98 = .ok (.aload_n 0, 1) := by decide +kernel
theorem dX12_closes_99 : decode cX12_closes 99 = .ok (.getfield 104, 3) := by decide +kernel
theorem dX12_closes_102 : decode cX12_closes 102 = .ok (.iload_n 2, 1) := by decide +kernel
theorem dX12_closes_103 : decode cX12_closes 103 = .ok (.iaload, 1) := by decide +kernel
theorem dX12_closes_104 : decode cX12_closes 104 = .ok (.iconst 2, 1) := by decide +kernel
theorem dX12_closes_105 : decode cX12_closes 105 = .ok (.iadd, 1) := by decide +kernel
theorem dX12_closes_106 : decode cX12_closes 106 = .ok (.istore 5, 2) := by decide +kernel
theorem dX12_closes_108 : decode cX12_closes 108 = .ok (.iload_n 3, 1) := by decide +kernel
theorem dX12_closes_109 : decode cX12_closes 109 = .ok (.bipush 9, 2) := by decide +kernel
theorem dX12_closes_111 : decode cX12_closes 111 = .ok (.if_icmp .ne 48, 3) := by decide +kernel
theorem dX12_closes_114 : decode cX12_closes 114 = .ok (.aload_n 0, 1) := by decide +kernel
theorem dX12_closes_115 : decode cX12_closes 115 = .ok (.aload_n 0, 1) := by decide +kernel
theorem dX12_closes_116 : decode cX12_closes 116 = .ok (.getfield 104, 3) := by decide +kernel
theorem dX12_closes_119 : decode cX12_closes 119 = .ok (.iload_n 2, 1) := by decide +kernel
theorem dX12_closes_120 : decode cX12_closes 120 = .ok (.iaload, 1) := by decide +kernel
theorem dX12_closes_121 : decode cX12_closes 121 = .ok (.iconst 1, 1) := by decide +kernel
theorem dX12_closes_122 : decode cX12_closes 122 = .ok (.iadd, 1) := by decide +kernel
theorem dX12_closes_123 : decode cX12_closes 123 = .ok (.putfield 454, 3) := by decide +kernel
theorem dX12_closes_126 : decode cX12_closes 126 = .ok (.aload_n 0, 1) := by decide +kernel
theorem dX12_closes_127 : decode cX12_closes 127 = .ok (.aload_n 0, 1) := by decide +kernel
theorem dX12_closes_128 : decode cX12_closes 128 = .ok (.getfield 110, 3) := by decide +kernel
theorem dX12_closes_131 : decode cX12_closes 131 = .ok (.iload_n 2, 1) := by decide +kernel
theorem dX12_closes_132 : decode cX12_closes 132 = .ok (.laload, 1) := by decide +kernel
theorem dX12_closes_133 : decode cX12_closes 133 = .ok (.invokevirtual 530, 3) := by decide +kernel
theorem dX12_closes_136 : decode cX12_closes 136 = .ok (.ifCond .eq 15, 3) := by decide +kernel
theorem dX12_closes_139 : decode cX12_closes 139 = .ok (.aload_n 0, 1) := by decide +kernel
theorem dX12_closes_140 : decode cX12_closes 140 = .ok (.dup, 1) := by decide +kernel
theorem dX12_closes_141 : decode cX12_closes 141 = .ok (.getfield 245, 3) := by decide +kernel
theorem dX12_closes_144 : decode cX12_closes 144 = .ok (.iconst 1, 1) := by decide +kernel
theorem dX12_closes_145 : decode cX12_closes 145 = .ok (.isub, 1) := by decide +kernel
theorem dX12_closes_146 : decode cX12_closes 146 = .ok (.putfield 245, 3) := by decide +kernel
theorem dX12_closes_149 : decode cX12_closes 149 = .ok (.iconst 0, 1) := by decide +kernel
theorem dX12_closes_150 : decode cX12_closes 150 = .ok (.ireturn, 1) := by decide +kernel
theorem dX12_closes_151 : decode cX12_closes 151 = .ok (.aload_n 0, 1) := by decide +kernel
theorem dX12_closes_152 : decode cX12_closes 152 = .ok (.getfield 454, 3) := by decide +kernel
theorem dX12_closes_155 : decode cX12_closes 155 = .ok (.iconst 2, 1) := by decide +kernel
theorem dX12_closes_156 : decode cX12_closes 156 = .ok (.iadd, 1) := by decide +kernel
theorem dX12_closes_157 : decode cX12_closes 157 = .ok (.istore 5, 2) := by decide +kernel
theorem dX12_closes_159 : decode cX12_closes 159 = .ok (.aload_n 0, 1) := by decide +kernel
theorem dX12_closes_160 : decode cX12_closes 160 = .ok (.getfield 101, 3) := by decide +kernel
theorem dX12_closes_163 : decode cX12_closes 163 = .ok (.iload_n 2, 1) := by decide +kernel
theorem dX12_closes_164 : decode cX12_closes 164 = .ok (.iload 5, 2) := by decide +kernel
theorem dX12_closes_166 : decode cX12_closes 166 = .ok (.iconst 1, 1) := by decide +kernel
theorem dX12_closes_167 : decode cX12_closes 167 = .ok (.iadd, 1) := by decide +kernel
theorem dX12_closes_168 : decode cX12_closes 168 = .ok (.iastore, 1) := by decide +kernel
theorem dX12_closes_169 : decode cX12_closes 169 = .ok (.iconst 0, 1) := by decide +kernel
theorem dX12_closes_170 : decode cX12_closes 170 = .ok (.ireturn, 1) := by decide +kernel
abbrev rm_f_X12_closes : Room := { frames := 205, cells := 0, slots := 0, locals := 12134 }
def f_X12_closes (N : Nat) (a0 : Int) (t : St) : Option (Int × St) :=
    lt1 (t.1 200 51) fun v1 =>
    ixI (v1 - 1) 1600 (lt1 (t.1 56 (v1 - 1).toNat) fun v2 =>
    ixI v2 10100 (lt1 (t.1 31 v2.toNat) fun v3 =>
    jn1 (fun (t4 : St) => jn1 (fun (t6 : St) => lt1 (t6.1 200 51) fun v8 =>
    lt1 (pI t6 200 51 (v8 - 1)) fun t9 =>
    some (0, t9)) fun J7 =>
    jn1 (fun (t10 : St) => ixI (v1 - 1) 1600 (lt1 (t10.1 57 (v1 - 1).toNat) fun v12 =>
    cmpI v12 0 (if v12 = 0 then (J7 t10)
    else (ixI (v1 - 1) 1600 (lt1 (t10.1 56 (v1 - 1).toNat) fun v13 =>
    bdI (f_X12_actsOf N v13 t10) fun v15 t14 =>
    bdI (f_X12_acted N v15 t14) fun v17 t16 =>
    cmpI v17 0 (if 0 < v17 then (some (v17, t16))
    else (ixI (v1 - 1) 1600 (lt1 (t16.1 56 (v1 - 1).toNat) fun v18 =>
    jn1 (fun (j19 : Int) (t20 : St) => ixI (v1 - 1) 1600 (lt1 (pI t20 55 (v1 - 1).toNat (j19 + 1)) fun t22 =>
    some (0, t22))) fun J21 =>
    cmpI v3 9 (if v3 = 9 then (ixI (v1 - 1) 1600 (lt1 (t16.1 56 (v1 - 1).toNat) fun v23 =>
    lt1 (pI t16 200 114 (v23 + 1)) fun t24 =>
    ixI (v1 - 1) 1600 (lt1 (t24.2 58 (v1 - 1).toNat) fun v25 =>
    bdI (f_X12_readCondition N v25 t24) fun v27 t26 =>
    cmpI v27 0 (if v27 = 0 then (lt1 (t26.1 200 114) fun v28 =>
    J21 (v28 + 2) t26)
    else (lt1 (t26.1 200 51) fun v29 =>
    lt1 (pI t26 200 51 (v29 - 1)) fun t30 =>
    some (0, t30))))))
    else (J21 (v18 + 2) t16)))))))))) fun J11 =>
    cmpI v3 8 (if v3 = 8 then (J11 t4)
    else (cmpI v3 9 (if v3 = 9 then (J11 t4)
    else (J7 t4))))) fun J5 =>
    jn1 (fun (t31 : St) => ixI (v1 - 1) 1600 (lt1 (t31.1 57 (v1 - 1).toNat) fun v33 =>
    ixI (v1 - 1) 1600 (lt1 (pI t31 57 (v1 - 1).toNat (v33 - 1)) fun t34 =>
    J5 t34))) fun J32 =>
    cmpI v3 8 (if v3 = 8 then (J32 t)
    else (cmpI v3 9 (if v3 = 9 then (J32 t)
    else (J5 t))))))
set_option maxHeartbeats 4000000 in
set_option maxRecDepth 100000 in
theorem b_f_X12_closes {p : Program} {l : Launch} {e : Env} {s : State} {m : MethodId} {args : Array Value} {below : List Frame} {meth : Method} {c : Code} {E : cE} {A : Nat → Prop} {r : Nat → Nat} {mc ms : Nat} {z : Int × St} {N : Nat} {a0 : Int} {t : St} (X : gX p s m meth c cX12_closes 6 (some .int) yX12_closes args E A) (h : f_X12_closes N a0 t = some z) : gP p l e rm_f_X12_closes s m args below meth c E A 6 (MQ below ((gqI E (gW E r shM) z) A) args s mc ms A) (gW E r shM) 0 [(0, .ref (r 200)), (1, iv a0)] [] t := by
  unfold f_X12_closes at h
  refine g_aload_n X dX12_closes_0 0 rfl ?_
  refine g_getI X fM_51 rfl dX12_closes_1 h (fun v1 h => ?_)
  refine g_iconst X dX12_closes_4 ?_
  refine g_isub X dX12_closes_5 ?_
  refine g_istore_n (lv' := [(2, iv (v1 - 1)), (0, .ref (r 200)), (1, iv a0)]) X dX12_closes_6 rfl (by decide) rfl ?_
  refine g_aload_n X dX12_closes_7 1 rfl ?_
  refine g_getR X fM_31 rfl dX12_closes_8 ?_
  refine g_aload_n X dX12_closes_11 1 rfl ?_
  refine g_getR X fM_56 rfl dX12_closes_12 ?_
  refine g_iload_n X dX12_closes_15 0 rfl ?_
  refine g_iald X aM_56 dX12_closes_16 h (fun v2 h => ?_)
  refine g_iald X aM_31 dX12_closes_17 h (fun v3 h => ?_)
  refine g_istore_n (lv' := [(3, iv v3), (2, iv (v1 - 1)), (0, .ref (r 200)), (1, iv a0)]) X dX12_closes_18 rfl (by decide) rfl ?_
  refine g_iload_n X dX12_closes_19 0 rfl ?_
  refine g_bipush X dX12_closes_20 (by decide) ?_
  refine g_join (J := fun jj => ∀ (t4 : St), jj  t4 = some z → gP p l e rm_f_X12_closes s m args below meth c E A 6 (MQ below ((gqI E (gW E r shM) z) A) args s mc ms A) (gW E r shM) 41 [(0, .ref (r 200)), (2, iv (v1 - 1)), (3, iv v3)] [] t4) h (fun  t4 h => ?_) (fun J5 hJ5 h => ?_)
  · refine g_iload_n X dX12_closes_41 2 rfl ?_
    refine g_bipush X dX12_closes_42 (by decide) ?_
    refine g_join (J := fun jj => ∀ (t6 : St), jj  t6 = some z → gP p l e rm_f_X12_closes s m args below meth c E A 6 (MQ below ((gqI E (gW E r shM) z) A) args s mc ms A) (gW E r shM) 62 [(0, .ref (r 200))] [] t6) h (fun  t6 h => ?_) (fun J7 hJ7 h => ?_)
    · refine g_aload_n X dX12_closes_62 0 rfl ?_
      refine g_dup X rfl dX12_closes_63 ?_
      refine g_getI X fM_51 rfl dX12_closes_64 h (fun v8 h => ?_)
      refine g_iconst X dX12_closes_67 ?_
      refine g_isub X dX12_closes_68 ?_
      refine g_putI X fM_51w rfl dX12_closes_69 h (fun t9 h => ?_)
      refine g_iconst X dX12_closes_72 ?_
      exact g_iret X h dX12_closes_73
    refine g_join (J := fun jj => ∀ (t10 : St), jj  t10 = some z → gP p l e rm_f_X12_closes s m args below meth c E A 6 (MQ below ((gqI E (gW E r shM) z) A) args s mc ms A) (gW E r shM) 53 [(0, .ref (r 200)), (2, iv (v1 - 1)), (3, iv v3)] [] t10) h (fun  t10 h => ?_) (fun J11 hJ11 h => ?_)
    · refine g_aload_n X dX12_closes_53 0 rfl ?_
      refine g_getR X fM_57 rfl dX12_closes_54 ?_
      refine g_iload_n X dX12_closes_57 1 rfl ?_
      refine g_iald X aM_57 dX12_closes_58 h (fun v12 h => ?_)
      refine g_if_ne (tgt := 74) X dX12_closes_59 (by decide) h (fun h => ?_) (fun h => ?_)
      · refine g_aload_n X dX12_closes_74 0 rfl ?_
        refine g_aload_n X dX12_closes_75 0 rfl ?_
        refine g_aload_n X dX12_closes_76 0 rfl ?_
        refine g_getR X fM_56 rfl dX12_closes_77 ?_
        refine g_iload_n X dX12_closes_80 1 rfl ?_
        refine g_iald X aM_56 dX12_closes_81 h (fun v13 h => ?_)
        refine g_callI (rest := [.ref (r 200)]) X (fun u9 h9 => cp_X12_actsOf l E r N v13 t10 u9 h9) yy_X12_actsOf yi_X12_actsOf wdM_RX12_611 0 12 (gW_at oM) rfl rfl rfl (Nat.le_of_ble_eq_true rfl) dX12_closes_82 ⟨by decide, by decide⟩ ⟨rfl, rfl⟩ h (fun v15 t14 h => ?_)
        refine g_callI (rest := []) X (fun u9 h9 => cp_X12_acted l E r N v15 t14 u9 h9) yy_X12_acted yi_X12_acted wdM_RX12_614 0 12 (gW_at oM) rfl rfl rfl (Nat.le_of_ble_eq_true rfl) dX12_closes_85 ⟨by decide, by decide⟩ ⟨rfl, rfl⟩ h (fun v17 t16 h => ?_)
        refine g_istore (lv' := [(4, iv v17), (0, .ref (r 200)), (2, iv (v1 - 1)), (3, iv v3)]) X dX12_closes_88 (by decide) rfl ?_
        refine g_iload X dX12_closes_90 0 rfl ?_
        refine g_if_le (tgt := 98) X dX12_closes_92 (by decide) h (fun h => ?_) (fun h => ?_)
        · refine g_aload_n X dX12_closes_98 1 rfl ?_
          refine g_getR X fM_56 rfl dX12_closes_99 ?_
          refine g_iload_n X dX12_closes_102 2 rfl ?_
          refine g_iald X aM_56 dX12_closes_103 h (fun v18 h => ?_)
          refine g_iconst X dX12_closes_104 ?_
          refine g_iadd X dX12_closes_105 ?_
          refine g_istore (lv' := [(5, iv (v18 + 2)), (4, iv v17), (0, .ref (r 200)), (2, iv (v1 - 1)), (3, iv v3)]) X dX12_closes_106 (by decide) rfl ?_
          refine g_iload_n X dX12_closes_108 4 rfl ?_
          refine g_bipush X dX12_closes_109 (by decide) ?_
          refine g_join (J := fun jj => ∀ (j19 : Int) (t20 : St), jj j19 t20 = some z → gP p l e rm_f_X12_closes s m args below meth c E A 6 (MQ below ((gqI E (gW E r shM) z) A) args s mc ms A) (gW E r shM) 159 [(0, .ref (r 200)), (2, iv (v1 - 1)), (5, iv j19)] [] t20) h (fun j19 t20 h => ?_) (fun J21 hJ21 h => ?_)
          · refine g_aload_n X dX12_closes_159 0 rfl ?_
            refine g_getR X fM_55 rfl dX12_closes_160 ?_
            refine g_iload_n X dX12_closes_163 1 rfl ?_
            refine g_iload X dX12_closes_164 2 rfl ?_
            refine g_iconst X dX12_closes_166 ?_
            refine g_iadd X dX12_closes_167 ?_
            refine g_iast X aM_55 dX12_closes_168 h (fun t22 h => ?_)
            refine g_iconst X dX12_closes_169 ?_
            exact g_iret X h dX12_closes_170
          refine g_icmp_ne (tgt := 159) X dX12_closes_111 (by decide) h (fun h => ?_) (fun h => ?_)
          · exact g_sub (lv' := [(0, .ref (r 200)), (2, iv (v1 - 1)), (5, iv (v18 + 2))]) [2, 3, 0] rfl (hJ21 (v18 + 2) t16 h)
          · refine g_aload_n X dX12_closes_114 2 rfl ?_
            refine g_aload_n X dX12_closes_115 2 rfl ?_
            refine g_getR X fM_56 rfl dX12_closes_116 ?_
            refine g_iload_n X dX12_closes_119 3 rfl ?_
            refine g_iald X aM_56 dX12_closes_120 h (fun v23 h => ?_)
            refine g_iconst X dX12_closes_121 ?_
            refine g_iadd X dX12_closes_122 ?_
            refine g_putI X fM_114w rfl dX12_closes_123 h (fun t24 h => ?_)
            refine g_aload_n X dX12_closes_126 2 rfl ?_
            refine g_aload_n X dX12_closes_127 2 rfl ?_
            refine g_getR X fM_58 rfl dX12_closes_128 ?_
            refine g_iload_n X dX12_closes_131 3 rfl ?_
            refine g_lald X aM_58 dX12_closes_132 h (fun v25 h => ?_)
            refine g_callI (rest := []) X (fun u9 h9 => cp_X12_readCondition l E r N v25 t24 u9 h9) yy_X12_readCondition yi_X12_readCondition wdM_RX12_530 0 12 (gW_at oM) rfl rfl rfl (Nat.le_of_ble_eq_true rfl) dX12_closes_133 ⟨by decide, by decide⟩ ⟨rfl, rfl⟩ h (fun v27 t26 h => ?_)
            refine g_if_eq (tgt := 151) X dX12_closes_136 (by decide) h (fun h => ?_) (fun h => ?_)
            · refine g_aload_n X dX12_closes_151 2 rfl ?_
              refine g_getI X fM_114 rfl dX12_closes_152 h (fun v28 h => ?_)
              refine g_iconst X dX12_closes_155 ?_
              refine g_iadd X dX12_closes_156 ?_
              refine g_istore (lv' := [(5, iv (v28 + 2)), (4, iv v17), (0, .ref (r 200)), (2, iv (v1 - 1)), (3, iv v3)]) X dX12_closes_157 (by decide) rfl ?_
              exact g_sub (lv' := [(0, .ref (r 200)), (2, iv (v1 - 1)), (5, iv (v28 + 2))]) [2, 3, 0] rfl (hJ21 (v28 + 2) t26 h)
            · refine g_aload_n X dX12_closes_139 2 rfl ?_
              refine g_dup X rfl dX12_closes_140 ?_
              refine g_getI X fM_51 rfl dX12_closes_141 h (fun v29 h => ?_)
              refine g_iconst X dX12_closes_144 ?_
              refine g_isub X dX12_closes_145 ?_
              refine g_putI X fM_51w rfl dX12_closes_146 h (fun t30 h => ?_)
              refine g_iconst X dX12_closes_149 ?_
              exact g_iret X h dX12_closes_150
        · refine g_iload X dX12_closes_95 0 rfl ?_
          exact g_iret X h dX12_closes_97
      · exact g_sub (lv' := [(0, .ref (r 200))]) [0] rfl (hJ7 t10 h)
    refine g_icmp_eq (tgt := 53) X dX12_closes_44 (by decide) h (fun h => ?_) (fun h => ?_)
    · exact g_sub (lv' := [(0, .ref (r 200)), (2, iv (v1 - 1)), (3, iv v3)]) [0, 1, 2] rfl (hJ11 t4 h)
    · refine g_iload_n X dX12_closes_47 2 rfl ?_
      refine g_bipush X dX12_closes_48 (by decide) ?_
      refine g_icmp_ne (tgt := 62) X dX12_closes_50 (by decide) h (fun h => ?_) (fun h => ?_)
      · exact g_sub (lv' := [(0, .ref (r 200))]) [0] rfl (hJ7 t4 h)
      · exact g_sub (lv' := [(0, .ref (r 200)), (2, iv (v1 - 1)), (3, iv v3)]) [0, 1, 2] rfl (hJ11 t4 h)
  refine g_join (J := fun jj => ∀ (t31 : St), jj  t31 = some z → gP p l e rm_f_X12_closes s m args below meth c E A 6 (MQ below ((gqI E (gW E r shM) z) A) args s mc ms A) (gW E r shM) 31 [(0, .ref (r 200)), (2, iv (v1 - 1)), (3, iv v3)] [] t31) h (fun  t31 h => ?_) (fun J32 hJ32 h => ?_)
  · refine g_aload_n X dX12_closes_31 0 rfl ?_
    refine g_getR X fM_57 rfl dX12_closes_32 ?_
    refine g_iload_n X dX12_closes_35 1 rfl ?_
    refine g_dup2 X rfl rfl dX12_closes_36 ?_
    refine g_iald X aM_57 dX12_closes_37 h (fun v33 h => ?_)
    refine g_iconst X dX12_closes_38 ?_
    refine g_isub X dX12_closes_39 ?_
    refine g_iast X aM_57 dX12_closes_40 h (fun t34 h => ?_)
    exact g_sub (lv' := [(0, .ref (r 200)), (2, iv (v1 - 1)), (3, iv v3)]) [0, 1, 2] rfl (hJ5 t34 h)
  refine g_icmp_eq (tgt := 31) X dX12_closes_22 (by decide) h (fun h => ?_) (fun h => ?_)
  · exact g_sub (lv' := [(0, .ref (r 200)), (2, iv (v1 - 1)), (3, iv v3)]) [2, 1, 0] rfl (hJ32 t h)
  · refine g_iload_n X dX12_closes_25 0 rfl ?_
    refine g_bipush X dX12_closes_26 (by decide) ?_
    refine g_icmp_ne (tgt := 41) X dX12_closes_28 (by decide) h (fun h => ?_) (fun h => ?_)
    · exact g_sub (lv' := [(0, .ref (r 200)), (2, iv (v1 - 1)), (3, iv v3)]) [2, 1, 0] rfl (hJ5 t h)
    · exact g_sub (lv' := [(0, .ref (r 200)), (2, iv (v1 - 1)), (3, iv v3)]) [2, 1, 0] rfl (hJ32 t h)
set_option maxHeartbeats 4000000 in
set_option maxRecDepth 100000 in
theorem cp_X12_closes (l : Launch) (E : cE) (r : Nat → Nat) (N : Nat) (a0 : Int) (t : St) (z : Int × St) (h : f_X12_closes N a0 t = some z) : cM l E yX12_closes cX12_closes 6 (some .int) rm_f_X12_closes [.ref (r 200), iv a0] (gW E r shM t) (gqI E (gW E r shM) z) := by
  refine g_of (w := gW E r shM) (by decide) (Nat.le_of_ble_eq_true rfl) ?_
  intro p e s m below meth c A X
  exact g_sub (lv' := [(0, .ref (r 200)), (1, iv a0)]) [0, 1] rfl (b_f_X12_closes X h)
theorem yy_X12_closes : cY yX12_closes cX12_closes 6 (some .int) 1 := ⟨wdK_X12_closes, wdZ_RX12, by decide +kernel⟩
theorem yi_X12_closes : cYi yX12_closes := ⟨wdN_X12_closes, wdS_X12_closes⟩
theorem dX12_enters__0 : decode cX12_enters_ 0 = .ok (.aload_n 0, 1) := by decide +kernel
theorem dX12_enters__1 : decode cX12_enters_ 1 = .ok (.getfield 110, 3) := by decide +kernel
theorem dX12_enters__4 : decode cX12_enters_ 4 = .ok (.aload_n 0, 1) := by decide +kernel
theorem dX12_enters__5 : decode cX12_enters_ 5 = .ok (.getfield 245, 3) := by decide +kernel
theorem dX12_enters__8 : decode cX12_enters_ 8 = .ok (.iconst 1, 1) := by decide +kernel
theorem dX12_enters__9 : decode cX12_enters_ 9 = .ok (.isub, 1) := by decide +kernel
theorem dX12_enters__10 : decode cX12_enters_ 10 = .ok (.laload, 1) := by decide +kernel
theorem dX12_enters__11 : decode cX12_enters_ 11 = .ok (.lstore_n 3, 1) := by decide +kernel
theorem dX12_enters__12 : decode cX12_enters_ 12 = .ok (.aload_n 0, 1) := by decide +kernel
theorem dX12_enters__13 : decode cX12_enters_ 13 = .ok (.iload_n 1, 1) := by decide +kernel
theorem dX12_enters__14 : decode cX12_enters_ 14 = .ok (.iconst 1, 1) := by decide +kernel
theorem dX12_enters__15 : decode cX12_enters_ 15 = .ok (.iadd, 1) := by decide +kernel
theorem dX12_enters__16 : decode cX12_enters_ 16 = .ok (.putfield 454, 3) := by decide +kernel
theorem dX12_enters__19 : decode cX12_enters_ 19 = .ok (.iload_n 2, 1) := by decide +kernel
theorem dX12_enters__20 : decode cX12_enters_ 20 = .ok (.bipush 7, 2) := by decide +kernel
theorem dX12_enters__22 : decode cX12_enters_ 22 = .ok (.if_icmp .ne 56, 3) := by decide +kernel
theorem dX12_enters__25 : decode cX12_enters_ 25 = .ok (.aload_n 0, 1) := by decide +kernel
theorem dX12_enters__26 : decode cX12_enters_ 26 = .ok (.getfield 101, 3) := by decide +kernel
theorem dX12_enters__29 : decode cX12_enters_ 29 = .ok (.aload_n 0, 1) := by decide +kernel
theorem dX12_enters__30 : decode cX12_enters_ 30 = .ok (.getfield 245, 3) := by decide +kernel
theorem dX12_enters__33 : decode cX12_enters_ 33 = .ok (.iconst 1, 1) := by decide +kernel
theorem dX12_enters__34 : decode cX12_enters_ 34 = .ok (.isub, 1) := by decide +kernel
theorem dX12_enters__35 : decode cX12_enters_ 35 = .ok (.iload_n 1, 1) := by decide +kernel
theorem dX12_enters__36 : decode cX12_enters_ 36 = .ok (.iconst 3, 1) := by decide +kernel
theorem dX12_enters__37 : decode cX12_enters_ 37 = .ok (.iadd, 1) := by decide +kernel
theorem dX12_enters__38 : decode cX12_enters_ 38 = .ok (.iastore, 1) := by decide +kernel
theorem dX12_enters__39 : decode cX12_enters_ 39 = .ok (.aload_n 0, 1) := by decide +kernel
theorem dX12_enters__40 : decode cX12_enters_ 40 = .ok (.getfield 65, 3) := by decide +kernel
theorem dX12_enters__43 : decode cX12_enters_ 43 = .ok (.iload_n 1, 1) := by decide +kernel
theorem dX12_enters__44 : decode cX12_enters_ 44 = .ok (.iconst 1, 1) := by decide +kernel
theorem dX12_enters__45 : decode cX12_enters_ 45 = .ok (.iadd, 1) := by decide +kernel
theorem dX12_enters__46 : decode cX12_enters_ 46 = .ok (.iaload, 1) := by decide +kernel
theorem dX12_enters__47 : decode cX12_enters_ 47 = .ok (.sipush 4000, 3) := by decide +kernel
theorem dX12_enters__50 : decode cX12_enters_ 50 = .ok (.isub, 1) := by decide +kernel
theorem dX12_enters__51 : decode cX12_enters_ 51 = .ok (.istore 5, 2) := by decide +kernel
theorem dX12_enters__53 : decode cX12_enters_ 53 = .ok (.aload_n 0, 1) := by decide +kernel
theorem dX12_enters__54 : decode cX12_enters_ 54 = .ok (.aload_n 0, 1) := by decide +kernel
theorem dX12_enters__55 : decode cX12_enters_ 55 = .ok (.getfield 59, 3) := by decide +kernel
theorem dX12_enters__58 : decode cX12_enters_ 58 = .ok (.iload 5, 2) := by decide +kernel
theorem dX12_enters__60 : decode cX12_enters_ 60 = .ok (.iaload, 1) := by decide +kernel
theorem dX12_enters__61 : decode cX12_enters_ 61 = .ok (.iconst 1, 1) := by decide +kernel
theorem dX12_enters__62 : decode cX12_enters_ 62 = .ok (.iadd, 1) := by decide +kernel
theorem dX12_enters__63 : decode cX12_enters_ 63 = .ok (.aload_n 0, 1) := by decide +kernel
theorem dX12_enters__64 : decode cX12_enters_ 64 = .ok (.getfield 59, 3) := by decide +kernel
theorem dX12_enters__67 : decode cX12_enters_ 67 = .ok (.iload 5, 2) := by decide +kernel
theorem dX12_enters__69 : decode cX12_enters_ 69 = .ok (.iaload, 1) := by decide +kernel
theorem dX12_enters__70 : decode cX12_enters_ 70 = .ok (.iconst 0, 1) := by decide +kernel
theorem dX12_enters__71 : decode cX12_enters_ 71 = .ok (.lload_n 3, 1) := by decide +kernel
theorem dX12_enters__72 : decode cX12_enters_ 72 = .ok (.invokevirtual 591, 3) := by decide +kernel
theorem dX12_enters__75 : decode cX12_enters_ 75 = .ok (.goto 281, 3) := by decide +kernel
theorem dX12_enters__78 : decode cX12_enters_ 78 = .ok (.iload_n 2, 1) := by decide +kernel
theorem dX12_enters__79 : decode cX12_enters_ 79 = .ok (.bipush 8, 2) := by decide +kernel
theorem dX12_enters__81 : decode cX12_enters_ 81 = .ok (.if_icmp .ne 48, 3) := by decide +kernel
theorem dX12_enters__84 : decode cX12_enters_ 84 = .ok (.aload_n 0, 1) := by decide +kernel
theorem dX12_enters__85 : decode cX12_enters_ 85 = .ok (.getfield 101, 3) := by decide +kernel
theorem dX12_enters__88 : decode cX12_enters_ 88 = .ok (.aload_n 0, 1) := by decide +kernel
theorem dX12_enters__89 : decode cX12_enters_ 89 = .ok (.getfield 245, 3) := by decide +kernel
theorem dX12_enters__92 : decode cX12_enters_ 92 = .ok (.iconst 1, 1) := by decide +kernel
theorem dX12_enters__93 : decode cX12_enters_ 93 = .ok (.isub, 1) := by decide +kernel
theorem dX12_enters__94 : decode cX12_enters_ 94 = .ok (.aload_n 0, 1) := by decide +kernel
theorem dX12_enters__95 : decode cX12_enters_ 95 = .ok (.getfield 68, 3) := by decide +kernel
theorem dX12_enters__98 : decode cX12_enters_ 98 = .ok (.iload_n 1, 1) := by decide +kernel
theorem dX12_enters__99 : decode cX12_enters_ 99 = .ok (.iconst 2, 1) := by decide +kernel
theorem dX12_enters__100 : decode cX12_enters_ 100 = .ok (.iadd, 1) := by decide +kernel
theorem dX12_enters__101 : decode cX12_enters_ 101 = .ok (.iaload, 1) := by decide +kernel
theorem dX12_enters__102 : decode cX12_enters_ 102 = .ok (.iconst 1, 1) := by decide +kernel
theorem dX12_enters__103 : decode cX12_enters_ 103 = .ok (.iadd, 1) := by decide +kernel
theorem dX12_enters__104 : decode cX12_enters_ 104 = .ok (.iastore, 1) := by decide +kernel
theorem dX12_enters__105 : decode cX12_enters_ 105 = .ok (.aload_n 0, 1) := by decide +kernel
theorem dX12_enters__106 : decode cX12_enters_ 106 = .ok (.iload_n 1, 1) := by decide +kernel
theorem dX12_enters__107 : decode cX12_enters_ 107 = .ok (.iconst 3, 1) := by decide +kernel
theorem dX12_enters__108 : decode cX12_enters_ 108 = .ok (.iadd, 1) := by decide +kernel
theorem dX12_enters__109 : decode cX12_enters_ 109 = .ok (.iload_n 1, 1) := by decide +kernel
theorem dX12_enters__110 : decode cX12_enters_ 110 = .ok (.aload_n 0, 1) := by decide +kernel
theorem dX12_enters__111 : decode cX12_enters_ 111 = .ok (.getfield 65, 3) := by decide +kernel
theorem dX12_enters__114 : decode cX12_enters_ 114 = .ok (.iload_n 1, 1) := by decide +kernel
theorem dX12_enters__115 : decode cX12_enters_ 115 = .ok (.iconst 1, 1) := by decide +kernel
theorem dX12_enters__116 : decode cX12_enters_ 116 = .ok (.iadd, 1) := by decide +kernel
theorem dX12_enters__117 : decode cX12_enters_ 117 = .ok (.iaload, 1) := by decide +kernel
theorem dX12_enters__118 : decode cX12_enters_ 118 = .ok (.sipush 1000, 3) := by decide +kernel
theorem dX12_enters__121 : decode cX12_enters_ 121 = .ok (.isub, 1) := by decide +kernel
theorem dX12_enters__122 : decode cX12_enters_ 122 = .ok (.lload_n 3, 1) := by decide +kernel
theorem dX12_enters__123 : decode cX12_enters_ 123 = .ok (.invokevirtual 591, 3) := by decide +kernel
theorem dX12_enters__126 : decode cX12_enters_ 126 = .ok (.goto 230, 3) := by decide +kernel
theorem dX12_enters__129 : decode cX12_enters_ 129 = .ok (.iload_n 2, 1) := by decide +kernel
theorem dX12_enters__130 : decode cX12_enters_ 130 = .ok (.bipush 13, 2) := by decide +kernel
theorem dX12_enters__132 : decode cX12_enters_ 132 = .ok (.if_icmp .ne 49, 3) := by decide +kernel
theorem dX12_enters__135 : decode cX12_enters_ 135 = .ok (.aload_n 0, 1) := by decide +kernel
theorem dX12_enters__136 : decode cX12_enters_ 136 = .ok (.lload_n 3, 1) := by decide +kernel
theorem dX12_enters__137 : decode cX12_enters_ 137 = .ok (.invokevirtual 460, 3) := by decide +kernel
theorem dX12_enters__140 : decode cX12_enters_ 140 = .ok (.lstore 5, 2) := by decide +kernel
theorem dX12_enters__142 : decode cX12_enters_ 142 = .ok (.aload_n 0, 1) := by decide +kernel
theorem dX12_enters__143 : decode cX12_enters_ 143 = .ok (.getfield 101, 3) := by decide +kernel
theorem dX12_enters__146 : decode cX12_enters_ 146 = .ok (.aload_n 0, 1) := by decide +kernel
theorem dX12_enters__147 : decode cX12_enters_ 147 = .ok (.getfield 245, 3) := by decide +kernel
theorem dX12_enters__150 : decode cX12_enters_ 150 = .ok (.iconst 1, 1) := by decide +kernel
theorem dX12_enters__151 : decode cX12_enters_ 151 = .ok (.isub, 1) := by decide +kernel
theorem dX12_enters__152 : decode cX12_enters_ 152 = .ok (.aload_n 0, 1) := by decide +kernel
theorem dX12_enters__153 : decode cX12_enters_ 153 = .ok (.getfield 68, 3) := by decide +kernel
theorem dX12_enters__156 : decode cX12_enters_ 156 = .ok (.aload_n 0, 1) := by decide +kernel
theorem dX12_enters__157 : decode cX12_enters_ 157 = .ok (.getfield 454, 3) := by decide +kernel
theorem dX12_enters__160 : decode cX12_enters_ 160 = .ok (.iaload, 1) := by decide +kernel
theorem dX12_enters__161 : decode cX12_enters_ 161 = .ok (.iconst 1, 1) := by decide +kernel
theorem dX12_enters__162 : decode cX12_enters_ 162 = .ok (.iadd, 1) := by decide +kernel
theorem dX12_enters__163 : decode cX12_enters_ 163 = .ok (.iastore, 1) := by decide +kernel
theorem dX12_enters__164 : decode cX12_enters_ 164 = .ok (.aload_n 0, 1) := by decide +kernel
theorem dX12_enters__165 : decode cX12_enters_ 165 = .ok (.aload_n 0, 1) := by decide +kernel
theorem dX12_enters__166 : decode cX12_enters_ 166 = .ok (.getfield 454, 3) := by decide +kernel
theorem dX12_enters__169 : decode cX12_enters_ 169 = .ok (.iconst 1, 1) := by decide +kernel
theorem dX12_enters__170 : decode cX12_enters_ 170 = .ok (.iadd, 1) := by decide +kernel
theorem dX12_enters__171 : decode cX12_enters_ 171 = .ok (.iload_n 1, 1) := by decide +kernel
theorem dX12_enters__172 : decode cX12_enters_ 172 = .ok (.iconst 0, 1) := by decide +kernel
theorem dX12_enters__173 : decode cX12_enters_ 173 = .ok (.lload 5, 2) := by decide +kernel
theorem dX12_enters__175 : decode cX12_enters_ 175 = .ok (.invokevirtual 591, 3) := by decide +kernel
theorem dX12_enters__178 : decode cX12_enters_ 178 = .ok (.goto 178, 3) := by decide +kernel
theorem dX12_enters__181 : decode cX12_enters_ 181 = .ok (.aload_n 0, 1) := by decide +kernel
theorem dX12_enters__182 : decode cX12_enters_ 182 = .ok (.lload_n 3, 1) := by decide +kernel
theorem dX12_enters__183 : decode cX12_enters_ 183 = .ok (.invokevirtual 530, 3) := by decide +kernel
theorem dX12_enters__186 : decode cX12_enters_ 186 = .ok (.istore 5, 2) := by decide +kernel
theorem dX12_enters__188 : decode cX12_enters_ 188 = .ok (.iload_n 2, 1) := by decide +kernel
theorem dX12_enters__189 : decode cX12_enters_ 189 = .ok (.bipush 9, 2) := by decide +kernel
theorem dX12_enters__191 : decode cX12_enters_ 191 = .ok (.if_icmp .ne 62, 3) := by decide +kernel
theorem dX12_enters__194 : decode cX12_enters_ 194 = .ok (.aload_n 0, 1) := by decide +kernel
theorem dX12_enters__195 : decode cX12_enters_ 195 = .ok (.getfield 454, 3) := by decide +kernel
theorem dX12_enters__198 : decode cX12_enters_ 198 = .ok (.iconst 2, 1) := by decide +kernel
theorem dX12_enters__199 : decode cX12_enters_ 199 = .ok (.iadd, 1) := by decide +kernel
theorem dX12_enters__200 : decode cX12_enters_ 200 = .ok (.istore 6, 2) := by decide +kernel
theorem dX12_enters__202 : decode cX12_enters_ 202 = .ok (.aload_n 0, 1) := by decide +kernel
theorem dX12_enters__203 : decode cX12_enters_ 203 = .ok (.getfield 101, 3) := by decide +kernel
theorem dX12_enters__206 : decode cX12_enters_ 206 = .ok (.aload_n 0, 1) := by decide +kernel
theorem dX12_enters__207 : decode cX12_enters_ 207 = .ok (.getfield 245, 3) := by decide +kernel
theorem dX12_enters__210 : decode cX12_enters_ 210 = .ok (.iconst 1, 1) := by decide +kernel
theorem dX12_enters__211 : decode cX12_enters_ 211 = .ok (.isub, 1) := by decide +kernel
theorem dX12_enters__212 : decode cX12_enters_ 212 = .ok (.aload_n 0, 1) := by decide +kernel
theorem dX12_enters__213 : decode cX12_enters_ 213 = .ok (.getfield 68, 3) := by decide +kernel
theorem dX12_enters__216 : decode cX12_enters_ 216 = .ok (.iload 6, 2) := by decide +kernel
theorem dX12_enters__218 : decode cX12_enters_ 218 = .ok (.iaload, 1) := by decide +kernel
theorem dX12_enters__219 : decode cX12_enters_ 219 = .ok (.iconst 1, 1) := by decide +kernel
theorem dX12_enters__220 : decode cX12_enters_ 220 = .ok (.iadd, 1) := by decide +kernel
theorem dX12_enters__221 : decode cX12_enters_ 221 = .ok (.iastore, 1) := by decide +kernel
theorem dX12_enters__222 : decode cX12_enters_ 222 = .ok (.iload 5, 2) := by decide +kernel
theorem dX12_enters__224 : decode cX12_enters_ 224 = .ok (.ifCond .ne 28, 3) := by decide +kernel
theorem dX12_enters__227 : decode cX12_enters_ 227 = .ok (.aload_n 0, 1) := by decide +kernel
theorem dX12_enters__228 : decode cX12_enters_ 228 = .ok (.iload 6, 2) := by decide +kernel
theorem dX12_enters__230 : decode cX12_enters_ 230 = .ok (.iconst 1, 1) := by decide +kernel
theorem dX12_enters__231 : decode cX12_enters_ 231 = .ok (.iadd, 1) := by decide +kernel
theorem dX12_enters__232 : decode cX12_enters_ 232 = .ok (.iload_n 1, 1) := by decide +kernel
theorem dX12_enters__233 : decode cX12_enters_ 233 = .ok (.aload_n 0, 1) := by decide +kernel
theorem dX12_enters__234 : decode cX12_enters_ 234 = .ok (.getfield 65, 3) := by decide +kernel
theorem dX12_enters__237 : decode cX12_enters_ 237 = .ok (.aload_n 0, 1) := by decide +kernel
theorem dX12_enters__238 : decode cX12_enters_ 238 = .ok (.getfield 454, 3) := by decide +kernel
theorem dX12_enters__241 : decode cX12_enters_ 241 = .ok (.iconst 1, 1) := by decide +kernel
theorem dX12_enters__242 : decode cX12_enters_ 242 = .ok (.iadd, 1) := by decide +kernel
theorem dX12_enters__243 : decode cX12_enters_ 243 = .ok (.iaload, 1) := by decide +kernel
theorem dX12_enters__244 : decode cX12_enters_ 244 = .ok (.sipush 1000, 3) := by decide +kernel
theorem dX12_enters__247 : decode cX12_enters_ 247 = .ok (.isub, 1) := by decide +kernel
theorem dX12_enters__248 : decode cX12_enters_ 248 = .ok (.lload_n 3, 1) := by decide +kernel
theorem dX12_enters__249 : decode cX12_enters_ 249 = .ok (.invokevirtual 591, 3) := by decide +kernel
theorem dX12_enters__252 : decode cX12_enters_ 252 = .ok (.return_, 1) := by decide +kernel
theorem dX12_enters__253 : decode cX12_enters_ 253 = .ok (.aload_n 0, 1) := by decide +kernel
theorem dX12_enters__254 : decode cX12_enters_ 254 = .ok (.getfield 454, 3) := by decide +kernel
theorem dX12_enters__257 : decode cX12_enters_ 257 = .ok (.istore 6, 2) := by decide +kernel
theorem dX12_enters__259 : decode cX12_enters_ 259 = .ok (.aload_n 0, 1) := by decide +kernel
theorem dX12_enters__260 : decode cX12_enters_ 260 = .ok (.getfield 68, 3) := by decide +kernel
theorem dX12_enters__263 : decode cX12_enters_ 263 = .ok (.iload 6, 2) := by decide +kernel
theorem dX12_enters__265 : decode cX12_enters_ 265 = .ok (.iaload, 1) := by decide +kernel
theorem dX12_enters__266 : decode cX12_enters_ 266 = .ok (.iconst 1, 1) := by decide +kernel
theorem dX12_enters__267 : decode cX12_enters_ 267 = .ok (.iadd, 1) := by decide +kernel
theorem dX12_enters__268 : decode cX12_enters_ 268 = .ok (.istore 7, 2) := by decide +kernel
theorem dX12_enters__270 : decode cX12_enters_ 270 = .ok (.aload_n 0, 1) := by decide +kernel
theorem dX12_enters__271 : decode cX12_enters_ 271 = .ok (.getfield 65, 3) := by decide +kernel
theorem dX12_enters__274 : decode cX12_enters_ 274 = .ok (.iload 7, 2) := by decide +kernel
theorem dX12_enters__276 : decode cX12_enters_ 276 = .ok (.iaload, 1) := by decide +kernel
theorem dX12_enters__277 : decode cX12_enters_ 277 = .ok (.bipush 12, 2) := by decide +kernel
theorem dX12_enters__279 : decode cX12_enters_ 279 = .ok (.if_icmp .ne 7, 3) := by decide +kernel
theorem dX12_enters__282 : decode cX12_enters_ 282 = .ok (.iconst 1, 1) := by decide +kernel
theorem dX12_enters__283 : decode cX12_enters_ 283 = .ok (.goto 4, 3) := by decide +kernel
theorem dX12_enters__286 : decode cX12_enters_ 286 = .ok (.iconst 0, 1) := by decide +kernel
theorem dX12_enters__287 : decode cX12_enters_ 287 = .ok (.istore 8, 2) := by decide +kernel
theorem dX12_enters__289 : decode cX12_enters_ 289 = .ok (.aload_n 0, 1) := by decide +kernel
theorem dX12_enters__290 : decode cX12_enters_ 290 = .ok (.getfield 101, 3) := by decide +kernel
theorem dX12_enters__293 : decode cX12_enters_ 293 = .ok (.aload_n 0, 1) := by decide +kernel
theorem dX12_enters__294 : decode cX12_enters_ 294 = .ok (.getfield 245, 3) := by decide +kernel
theorem dX12_enters__297 : decode cX12_enters_ 297 = .ok (.iconst 1, 1) := by decide +kernel
theorem dX12_enters__298 : decode cX12_enters_ 298 = .ok (.isub, 1) := by decide +kernel
theorem dX12_enters__299 : decode cX12_enters_ 299 = .ok (.iload 8, 2) := by decide +kernel
theorem dX12_enters__301 : decode cX12_enters_ 301 = .ok (.ifCond .eq 17, 3) := by decide +kernel
theorem dX12_enters__304 : decode cX12_enters_ 304 = .ok (.aload_n 0, 1) := by decide +kernel
theorem dX12_enters__305 : decode cX12_enters_ 305 = .ok (.getfield 68, 3) := by decide +kernel
theorem dX12_enters__308 : decode cX12_enters_ 308 = .ok (.iload 7, 2) := by decide +kernel
theorem dX12_enters__310 : decode cX12_enters_ 310 = .ok (.iconst 1, 1) := by decide +kernel
theorem dX12_enters__311 : decode cX12_enters_ 311 = .ok (.iadd, 1) := by decide +kernel
theorem dX12_enters__312 : decode cX12_enters_ 312 = .ok (.iaload, 1) := by decide +kernel
theorem dX12_enters__313 : decode cX12_enters_ 313 = .ok (.iconst 1, 1) := by decide +kernel
theorem dX12_enters__314 : decode cX12_enters_ 314 = .ok (.iadd, 1) := by decide +kernel
theorem dX12_enters__315 : decode cX12_enters_ 315 = .ok (.goto 5, 3) := by decide +kernel
theorem dX12_enters__318 : decode cX12_enters_ 318 = .ok (.iload 7, 2) := by decide +kernel
theorem dX12_enters__320 : decode cX12_enters_ 320 = .ok (.iastore, 1) := by decide +kernel
theorem dX12_enters__321 : decode cX12_enters_ 321 = .ok (.iload 5, 2) := by decide +kernel
theorem dX12_enters__323 : decode cX12_enters_ 323 = .ok (.ifCond .eq 17, 3) := by decide +kernel
theorem dX12_enters__326 : decode cX12_enters_ 326 = .ok (.aload_n 0, 1) := by decide +kernel
theorem dX12_enters__327 : decode cX12_enters_ 327 = .ok (.iload 6, 2) := by decide +kernel
theorem dX12_enters__329 : decode cX12_enters_ 329 = .ok (.iconst 1, 1) := by decide +kernel
theorem dX12_enters__330 : decode cX12_enters_ 330 = .ok (.iadd, 1) := by decide +kernel
theorem dX12_enters__331 : decode cX12_enters_ 331 = .ok (.iload_n 1, 1) := by decide +kernel
theorem dX12_enters__332 : decode cX12_enters_ 332 = .ok (.iconst 0, 1) := by decide +kernel
theorem dX12_enters__333 : decode cX12_enters_ 333 = .ok (.lload_n 3, 1) := by decide +kernel
theorem dX12_enters__334 : decode cX12_enters_ 334 = .ok (.invokevirtual 591, 3) := by decide +kernel
theorem dX12_enters__337 : decode cX12_enters_ 337 = .ok (.goto 19, 3) := by decide +kernel
theorem dX12_enters__340 : decode cX12_enters_ 340 = .ok (.iload 8, 2) := by decide +kernel
theorem dX12_enters__342 : decode cX12_enters_ 342 = .ok (.ifCond .eq 14, 3) := by decide +kernel
theorem dX12_enters__345 : decode cX12_enters_ 345 = .ok (.aload_n 0, 1) := by decide +kernel
theorem dX12_enters__346 : decode cX12_enters_ 346 = .ok (.iload 7, 2) := by decide +kernel
theorem dX12_enters__348 : decode cX12_enters_ 348 = .ok (.iconst 2, 1) := by decide +kernel
theorem dX12_enters__349 : decode cX12_enters_ 349 = .ok (.iadd, 1) := by decide +kernel
theorem dX12_enters__350 : decode cX12_enters_ 350 = .ok (.iload_n 1, 1) := by decide +kernel
theorem dX12_enters__351 : decode cX12_enters_ 351 = .ok (.iconst 0, 1) := by decide +kernel
theorem dX12_enters__352 : decode cX12_enters_ 352 = .ok (.lload_n 3, 1) := by decide +kernel
theorem dX12_enters__353 : decode cX12_enters_ 353 = .ok (.invokevirtual 591, 3) := by decide +kernel
theorem dX12_enters__356 : decode cX12_enters_ 356 = .ok (.return_, 1) := by decide +kernel
abbrev rm_f_X12_enters_ : Room := { frames := 205, cells := 0, slots := 0, locals := 12134 }
def f_X12_enters_ (N : Nat) (a0 : Int) (a1 : Int) (t : St) : Option (St) :=
    lt1 (t.1 200 51) fun v1 =>
    ixI (v1 - 1) 1600 (lt1 (t.2 58 (v1 - 1).toNat) fun v2 =>
    lt1 (pI t 200 114 (a0 + 1)) fun t3 =>
    cmpI a1 7 (if a1 = 7 then (lt1 (t3.1 200 51) fun v40 =>
    ixI (v40 - 1) 1600 (lt1 (pI t3 55 (v40 - 1).toNat (a0 + 3)) fun t41 =>
    ixI (a0 + 1) 10100 (lt1 (t41.1 31 (a0 + 1).toNat) fun v42 =>
    ixI (v42 - 4000) 60 (lt1 (t41.1 29 (v42 - 4000).toNat) fun v43 =>
    ixI (v42 - 4000) 60 (lt1 (t41.1 29 (v42 - 4000).toNat) fun v44 =>
    bdV (f_X12_enters N (v43 + 1) v44 0 v2 t41) fun t45 =>
    some t45)))))
    else (cmpI a1 8 (if a1 = 8 then (lt1 (t3.1 200 51) fun v35 =>
    ixI (a0 + 2) 10100 (lt1 (t3.1 32 (a0 + 2).toNat) fun v36 =>
    ixI (v35 - 1) 1600 (lt1 (pI t3 55 (v35 - 1).toNat (v36 + 1)) fun t37 =>
    ixI (a0 + 1) 10100 (lt1 (t37.1 31 (a0 + 1).toNat) fun v38 =>
    bdV (f_X12_enters N (a0 + 3) a0 (v38 - 1000) v2 t37) fun t39 =>
    some t39))))
    else (cmpI a1 13 (if a1 = 13 then (bdL (f_X12_readWho N v2 t3) fun v28 t27 =>
    lt1 (t27.1 200 51) fun v29 =>
    lt1 (t27.1 200 114) fun v30 =>
    ixI v30 10100 (lt1 (t27.1 32 v30.toNat) fun v31 =>
    ixI (v29 - 1) 1600 (lt1 (pI t27 55 (v29 - 1).toNat (v31 + 1)) fun t32 =>
    lt1 (t32.1 200 114) fun v33 =>
    bdV (f_X12_enters N (v33 + 1) a0 0 v28 t32) fun t34 =>
    some t34)))
    else (bdI (f_X12_readCondition N v2 t3) fun v5 t4 =>
    cmpI a1 9 (if a1 = 9 then (lt1 (t4.1 200 114) fun v20 =>
    lt1 (t4.1 200 51) fun v21 =>
    ixI (v20 + 2) 10100 (lt1 (t4.1 32 (v20 + 2).toNat) fun v22 =>
    ixI (v21 - 1) 1600 (lt1 (pI t4 55 (v21 - 1).toNat (v22 + 1)) fun t23 =>
    cmpI v5 0 (if v5 = 0 then (lt1 (t23.1 200 114) fun v24 =>
    ixI (v24 + 1) 10100 (lt1 (t23.1 31 (v24 + 1).toNat) fun v25 =>
    bdV (f_X12_enters N ((v20 + 2) + 1) a0 (v25 - 1000) v2 t23) fun t26 =>
    some t26))
    else (some t23)))))
    else (lt1 (t4.1 200 114) fun v6 =>
    ixI v6 10100 (lt1 (t4.1 32 v6.toNat) fun v7 =>
    ixI (v7 + 1) 10100 (lt1 (t4.1 31 (v7 + 1).toNat) fun v8 =>
    jn1 (fun (j9 : Int) (t10 : St) => lt1 (t10.1 200 51) fun v12 =>
    jn1 (fun (j13 : Int) (t14 : St) => ixI (v12 - 1) 1600 (lt1 (pI t14 55 (v12 - 1).toNat j13) fun t16 =>
    cmpI v5 0 (if v5 = 0 then (cmpI j9 0 (if j9 = 0 then (some t16)
    else (bdV (f_X12_enters N ((v7 + 1) + 2) a0 0 v2 t16) fun t17 =>
    some t17)))
    else (bdV (f_X12_enters N (v6 + 1) a0 0 v2 t16) fun t18 =>
    some t18)))) fun J15 =>
    cmpI j9 0 (if j9 = 0 then (J15 (v7 + 1) t10)
    else (ixI ((v7 + 1) + 1) 10100 (lt1 (t10.1 32 ((v7 + 1) + 1).toNat) fun v19 =>
    J15 (v19 + 1) t10)))) fun J11 =>
    cmpI v8 12 (if v8 = 12 then (J11 1 t4)
    else (J11 0 t4)))))))))))))
set_option maxHeartbeats 4000000 in
set_option maxRecDepth 100000 in
theorem b_f_X12_enters_ {p : Program} {l : Launch} {e : Env} {s : State} {m : MethodId} {args : Array Value} {below : List Frame} {meth : Method} {c : Code} {E : cE} {A : Nat → Prop} {r : Nat → Nat} {mc ms : Nat} {z : St} {N : Nat} {a0 : Int} {a1 : Int} {t : St} (X : gX p s m meth c cX12_enters_ 9 none yX12_enters_ args E A) (h : f_X12_enters_ N a0 a1 t = some z) : gP p l e rm_f_X12_enters_ s m args below meth c E A 9 (MQ below ((gqV E (gW E r shM) z) A) args s mc ms A) (gW E r shM) 0 [(0, .ref (r 200)), (1, iv a0), (2, iv a1)] [] t := by
  unfold f_X12_enters_ at h
  refine g_aload_n X dX12_enters__0 0 rfl ?_
  refine g_getR X fM_58 rfl dX12_enters__1 ?_
  refine g_aload_n X dX12_enters__4 0 rfl ?_
  refine g_getI X fM_51 rfl dX12_enters__5 h (fun v1 h => ?_)
  refine g_iconst X dX12_enters__8 ?_
  refine g_isub X dX12_enters__9 ?_
  refine g_lald X aM_58 dX12_enters__10 h (fun v2 h => ?_)
  refine g_lstore_n (lv' := [(3, .long v2), (0, .ref (r 200)), (1, iv a0), (2, iv a1)]) X dX12_enters__11 rfl (by decide) rfl ?_
  refine g_aload_n X dX12_enters__12 1 rfl ?_
  refine g_iload_n X dX12_enters__13 2 rfl ?_
  refine g_iconst X dX12_enters__14 ?_
  refine g_iadd X dX12_enters__15 ?_
  refine g_putI X fM_114w rfl dX12_enters__16 h (fun t3 h => ?_)
  refine g_iload_n X dX12_enters__19 3 rfl ?_
  refine g_bipush X dX12_enters__20 (by decide) ?_
  refine g_icmp_ne (tgt := 78) X dX12_enters__22 (by decide) h (fun h => ?_) (fun h => ?_)
  · refine g_iload_n X dX12_enters__78 3 rfl ?_
    refine g_bipush X dX12_enters__79 (by decide) ?_
    refine g_icmp_ne (tgt := 129) X dX12_enters__81 (by decide) h (fun h => ?_) (fun h => ?_)
    · refine g_iload_n X dX12_enters__129 3 rfl ?_
      refine g_bipush X dX12_enters__130 (by decide) ?_
      refine g_icmp_ne (tgt := 181) X dX12_enters__132 (by decide) h (fun h => ?_) (fun h => ?_)
      · refine g_aload_n X dX12_enters__181 1 rfl ?_
        refine g_lload_n X dX12_enters__182 0 rfl ?_
        refine g_callI (rest := []) X (fun u9 h9 => cp_X12_readCondition l E r N v2 t3 u9 h9) yy_X12_readCondition yi_X12_readCondition wdM_RX12_530 0 12 (gW_at oM) rfl rfl rfl (Nat.le_of_ble_eq_true rfl) dX12_enters__183 ⟨by decide, by decide⟩ ⟨rfl, rfl⟩ h (fun v5 t4 h => ?_)
        refine g_istore (lv' := [(5, iv v5), (3, .long v2), (0, .ref (r 200)), (1, iv a0), (2, iv a1)]) X dX12_enters__186 (by decide) rfl ?_
        refine g_iload_n X dX12_enters__188 4 rfl ?_
        refine g_bipush X dX12_enters__189 (by decide) ?_
        refine g_icmp_ne (tgt := 253) X dX12_enters__191 (by decide) h (fun h => ?_) (fun h => ?_)
        · refine g_aload_n X dX12_enters__253 2 rfl ?_
          refine g_getI X fM_114 rfl dX12_enters__254 h (fun v6 h => ?_)
          refine g_istore (lv' := [(6, iv v6), (5, iv v5), (3, .long v2), (0, .ref (r 200)), (1, iv a0), (2, iv a1)]) X dX12_enters__257 (by decide) rfl ?_
          refine g_aload_n X dX12_enters__259 3 rfl ?_
          refine g_getR X fM_32 rfl dX12_enters__260 ?_
          refine g_iload X dX12_enters__263 0 rfl ?_
          refine g_iald X aM_32 dX12_enters__265 h (fun v7 h => ?_)
          refine g_iconst X dX12_enters__266 ?_
          refine g_iadd X dX12_enters__267 ?_
          refine g_istore (lv' := [(7, iv (v7 + 1)), (6, iv v6), (5, iv v5), (3, .long v2), (0, .ref (r 200)), (1, iv a0), (2, iv a1)]) X dX12_enters__268 (by decide) rfl ?_
          refine g_aload_n X dX12_enters__270 4 rfl ?_
          refine g_getR X fM_31 rfl dX12_enters__271 ?_
          refine g_iload X dX12_enters__274 0 rfl ?_
          refine g_iald X aM_31 dX12_enters__276 h (fun v8 h => ?_)
          refine g_bipush X dX12_enters__277 (by decide) ?_
          refine g_join (J := fun jj => ∀ (j9 : Int) (t10 : St), jj j9 t10 = some z → gP p l e rm_f_X12_enters_ s m args below meth c E A 9 (MQ below ((gqV E (gW E r shM) z) A) args s mc ms A) (gW E r shM) 287 [(0, .ref (r 200)), (1, iv a0), (3, .long v2), (5, iv v5), (6, iv v6), (7, iv (v7 + 1))] [iv j9] t10) h (fun j9 t10 h => ?_) (fun J11 hJ11 h => ?_)
          · refine g_istore (lv' := [(8, iv j9), (0, .ref (r 200)), (1, iv a0), (3, .long v2), (5, iv v5), (6, iv v6), (7, iv (v7 + 1))]) X dX12_enters__287 (by decide) rfl ?_
            refine g_aload_n X dX12_enters__289 1 rfl ?_
            refine g_getR X fM_55 rfl dX12_enters__290 ?_
            refine g_aload_n X dX12_enters__293 1 rfl ?_
            refine g_getI X fM_51 rfl dX12_enters__294 h (fun v12 h => ?_)
            refine g_iconst X dX12_enters__297 ?_
            refine g_isub X dX12_enters__298 ?_
            refine g_iload X dX12_enters__299 0 rfl ?_
            refine g_join (J := fun jj => ∀ (j13 : Int) (t14 : St), jj j13 t14 = some z → gP p l e rm_f_X12_enters_ s m args below meth c E A 9 (MQ below ((gqV E (gW E r shM) z) A) args s mc ms A) (gW E r shM) 320 [(0, .ref (r 200)), (1, iv a0), (3, .long v2), (5, iv v5), (6, iv v6), (7, iv (v7 + 1)), (8, iv j9)] [iv j13, iv (v12 - 1), .ref (r 55)] t14) h (fun j13 t14 h => ?_) (fun J15 hJ15 h => ?_)
            · refine g_iast X aM_55 dX12_enters__320 h (fun t16 h => ?_)
              refine g_iload X dX12_enters__321 3 rfl ?_
              refine g_if_eq (tgt := 340) X dX12_enters__323 (by decide) h (fun h => ?_) (fun h => ?_)
              · refine g_iload X dX12_enters__340 6 rfl ?_
                refine g_if_eq (tgt := 356) X dX12_enters__342 (by decide) h (fun h => ?_) (fun h => ?_)
                · exact g_vret X h dX12_enters__356
                · refine g_aload_n X dX12_enters__345 0 rfl ?_
                  refine g_iload X dX12_enters__346 5 rfl ?_
                  refine g_iconst X dX12_enters__348 ?_
                  refine g_iadd X dX12_enters__349 ?_
                  refine g_iload_n X dX12_enters__350 1 rfl ?_
                  refine g_iconst X dX12_enters__351 ?_
                  refine g_lload_n X dX12_enters__352 2 rfl ?_
                  refine g_callV (rest := []) X (fun u9 h9 => cp_X12_enters l E r N ((v7 + 1) + 2) a0 0 v2 t16 u9 h9) yy_X12_enters yi_X12_enters wdM_RX12_591 0 12 (gW_at oM) rfl rfl rfl (Nat.le_of_ble_eq_true rfl) dX12_enters__353 ⟨by decide, by decide⟩ ⟨rfl, rfl⟩ h (fun t17 h => ?_)
                  exact g_vret X h dX12_enters__356
              · refine g_aload_n X dX12_enters__326 0 rfl ?_
                refine g_iload X dX12_enters__327 4 rfl ?_
                refine g_iconst X dX12_enters__329 ?_
                refine g_iadd X dX12_enters__330 ?_
                refine g_iload_n X dX12_enters__331 1 rfl ?_
                refine g_iconst X dX12_enters__332 ?_
                refine g_lload_n X dX12_enters__333 2 rfl ?_
                refine g_callV (rest := []) X (fun u9 h9 => cp_X12_enters l E r N (v6 + 1) a0 0 v2 t16 u9 h9) yy_X12_enters yi_X12_enters wdM_RX12_591 0 12 (gW_at oM) rfl rfl rfl (Nat.le_of_ble_eq_true rfl) dX12_enters__334 ⟨by decide, by decide⟩ ⟨rfl, rfl⟩ h (fun t18 h => ?_)
                refine g_goto (tgt := 356) X dX12_enters__337 (by decide) ?_
                exact g_vret X h dX12_enters__356
            refine g_if_eq (tgt := 318) X dX12_enters__301 (by decide) h (fun h => ?_) (fun h => ?_)
            · refine g_iload X dX12_enters__318 6 rfl ?_
              exact g_sub (lv' := [(0, .ref (r 200)), (1, iv a0), (3, .long v2), (5, iv v5), (6, iv v6), (7, iv (v7 + 1)), (8, iv j9)]) [1, 2, 3, 4, 5, 6, 0] rfl (hJ15 (v7 + 1) t10 h)
            · refine g_aload_n X dX12_enters__304 1 rfl ?_
              refine g_getR X fM_32 rfl dX12_enters__305 ?_
              refine g_iload X dX12_enters__308 6 rfl ?_
              refine g_iconst X dX12_enters__310 ?_
              refine g_iadd X dX12_enters__311 ?_
              refine g_iald X aM_32 dX12_enters__312 h (fun v19 h => ?_)
              refine g_iconst X dX12_enters__313 ?_
              refine g_iadd X dX12_enters__314 ?_
              refine g_goto (tgt := 320) X dX12_enters__315 (by decide) ?_
              exact g_sub (lv' := [(0, .ref (r 200)), (1, iv a0), (3, .long v2), (5, iv v5), (6, iv v6), (7, iv (v7 + 1)), (8, iv j9)]) [1, 2, 3, 4, 5, 6, 0] rfl (hJ15 (v19 + 1) t10 h)
          refine g_icmp_ne (tgt := 286) X dX12_enters__279 (by decide) h (fun h => ?_) (fun h => ?_)
          · refine g_iconst X dX12_enters__286 ?_
            exact g_sub (lv' := [(0, .ref (r 200)), (1, iv a0), (3, .long v2), (5, iv v5), (6, iv v6), (7, iv (v7 + 1))]) [4, 5, 3, 2, 1, 0] rfl (hJ11 0 t4 h)
          · refine g_iconst X dX12_enters__282 ?_
            refine g_goto (tgt := 287) X dX12_enters__283 (by decide) ?_
            exact g_sub (lv' := [(0, .ref (r 200)), (1, iv a0), (3, .long v2), (5, iv v5), (6, iv v6), (7, iv (v7 + 1))]) [4, 5, 3, 2, 1, 0] rfl (hJ11 1 t4 h)
        · refine g_aload_n X dX12_enters__194 2 rfl ?_
          refine g_getI X fM_114 rfl dX12_enters__195 h (fun v20 h => ?_)
          refine g_iconst X dX12_enters__198 ?_
          refine g_iadd X dX12_enters__199 ?_
          refine g_istore (lv' := [(6, iv (v20 + 2)), (5, iv v5), (3, .long v2), (0, .ref (r 200)), (1, iv a0), (2, iv a1)]) X dX12_enters__200 (by decide) rfl ?_
          refine g_aload_n X dX12_enters__202 3 rfl ?_
          refine g_getR X fM_55 rfl dX12_enters__203 ?_
          refine g_aload_n X dX12_enters__206 3 rfl ?_
          refine g_getI X fM_51 rfl dX12_enters__207 h (fun v21 h => ?_)
          refine g_iconst X dX12_enters__210 ?_
          refine g_isub X dX12_enters__211 ?_
          refine g_aload_n X dX12_enters__212 3 rfl ?_
          refine g_getR X fM_32 rfl dX12_enters__213 ?_
          refine g_iload X dX12_enters__216 0 rfl ?_
          refine g_iald X aM_32 dX12_enters__218 h (fun v22 h => ?_)
          refine g_iconst X dX12_enters__219 ?_
          refine g_iadd X dX12_enters__220 ?_
          refine g_iast X aM_55 dX12_enters__221 h (fun t23 h => ?_)
          refine g_iload X dX12_enters__222 1 rfl ?_
          refine g_if_ne (tgt := 252) X dX12_enters__224 (by decide) h (fun h => ?_) (fun h => ?_)
          · exact g_vret X h dX12_enters__252
          · refine g_aload_n X dX12_enters__227 3 rfl ?_
            refine g_iload X dX12_enters__228 0 rfl ?_
            refine g_iconst X dX12_enters__230 ?_
            refine g_iadd X dX12_enters__231 ?_
            refine g_iload_n X dX12_enters__232 4 rfl ?_
            refine g_aload_n X dX12_enters__233 3 rfl ?_
            refine g_getR X fM_31 rfl dX12_enters__234 ?_
            refine g_aload_n X dX12_enters__237 3 rfl ?_
            refine g_getI X fM_114 rfl dX12_enters__238 h (fun v24 h => ?_)
            refine g_iconst X dX12_enters__241 ?_
            refine g_iadd X dX12_enters__242 ?_
            refine g_iald X aM_31 dX12_enters__243 h (fun v25 h => ?_)
            refine g_sipush X dX12_enters__244 (by decide) ?_
            refine g_isub X dX12_enters__247 ?_
            refine g_lload_n X dX12_enters__248 2 rfl ?_
            refine g_callV (rest := []) X (fun u9 h9 => cp_X12_enters l E r N ((v20 + 2) + 1) a0 (v25 - 1000) v2 t23 u9 h9) yy_X12_enters yi_X12_enters wdM_RX12_591 0 12 (gW_at oM) rfl rfl rfl (Nat.le_of_ble_eq_true rfl) dX12_enters__249 ⟨by decide, by decide⟩ ⟨rfl, rfl⟩ h (fun t26 h => ?_)
            exact g_vret X h dX12_enters__252
      · refine g_aload_n X dX12_enters__135 1 rfl ?_
        refine g_lload_n X dX12_enters__136 0 rfl ?_
        refine g_callL (rest := []) X (fun u9 h9 => cp_X12_readWho l E r N v2 t3 u9 h9) yy_X12_readWho yi_X12_readWho wdM_RX12_460 0 12 (gW_at oM) rfl rfl rfl (Nat.le_of_ble_eq_true rfl) dX12_enters__137 ⟨by decide, by decide⟩ ⟨rfl, rfl⟩ h (fun v28 t27 h => ?_)
        refine g_lstore (lv' := [(5, .long v28), (3, .long v2), (0, .ref (r 200)), (1, iv a0), (2, iv a1)]) X dX12_enters__140 (by decide) rfl ?_
        refine g_aload_n X dX12_enters__142 2 rfl ?_
        refine g_getR X fM_55 rfl dX12_enters__143 ?_
        refine g_aload_n X dX12_enters__146 2 rfl ?_
        refine g_getI X fM_51 rfl dX12_enters__147 h (fun v29 h => ?_)
        refine g_iconst X dX12_enters__150 ?_
        refine g_isub X dX12_enters__151 ?_
        refine g_aload_n X dX12_enters__152 2 rfl ?_
        refine g_getR X fM_32 rfl dX12_enters__153 ?_
        refine g_aload_n X dX12_enters__156 2 rfl ?_
        refine g_getI X fM_114 rfl dX12_enters__157 h (fun v30 h => ?_)
        refine g_iald X aM_32 dX12_enters__160 h (fun v31 h => ?_)
        refine g_iconst X dX12_enters__161 ?_
        refine g_iadd X dX12_enters__162 ?_
        refine g_iast X aM_55 dX12_enters__163 h (fun t32 h => ?_)
        refine g_aload_n X dX12_enters__164 2 rfl ?_
        refine g_aload_n X dX12_enters__165 2 rfl ?_
        refine g_getI X fM_114 rfl dX12_enters__166 h (fun v33 h => ?_)
        refine g_iconst X dX12_enters__169 ?_
        refine g_iadd X dX12_enters__170 ?_
        refine g_iload_n X dX12_enters__171 3 rfl ?_
        refine g_iconst X dX12_enters__172 ?_
        refine g_lload X dX12_enters__173 0 rfl ?_
        refine g_callV (rest := []) X (fun u9 h9 => cp_X12_enters l E r N (v33 + 1) a0 0 v28 t32 u9 h9) yy_X12_enters yi_X12_enters wdM_RX12_591 0 12 (gW_at oM) rfl rfl rfl (Nat.le_of_ble_eq_true rfl) dX12_enters__175 ⟨by decide, by decide⟩ ⟨rfl, rfl⟩ h (fun t34 h => ?_)
        refine g_goto (tgt := 356) X dX12_enters__178 (by decide) ?_
        exact g_vret X h dX12_enters__356
    · refine g_aload_n X dX12_enters__84 1 rfl ?_
      refine g_getR X fM_55 rfl dX12_enters__85 ?_
      refine g_aload_n X dX12_enters__88 1 rfl ?_
      refine g_getI X fM_51 rfl dX12_enters__89 h (fun v35 h => ?_)
      refine g_iconst X dX12_enters__92 ?_
      refine g_isub X dX12_enters__93 ?_
      refine g_aload_n X dX12_enters__94 1 rfl ?_
      refine g_getR X fM_32 rfl dX12_enters__95 ?_
      refine g_iload_n X dX12_enters__98 2 rfl ?_
      refine g_iconst X dX12_enters__99 ?_
      refine g_iadd X dX12_enters__100 ?_
      refine g_iald X aM_32 dX12_enters__101 h (fun v36 h => ?_)
      refine g_iconst X dX12_enters__102 ?_
      refine g_iadd X dX12_enters__103 ?_
      refine g_iast X aM_55 dX12_enters__104 h (fun t37 h => ?_)
      refine g_aload_n X dX12_enters__105 1 rfl ?_
      refine g_iload_n X dX12_enters__106 2 rfl ?_
      refine g_iconst X dX12_enters__107 ?_
      refine g_iadd X dX12_enters__108 ?_
      refine g_iload_n X dX12_enters__109 2 rfl ?_
      refine g_aload_n X dX12_enters__110 1 rfl ?_
      refine g_getR X fM_31 rfl dX12_enters__111 ?_
      refine g_iload_n X dX12_enters__114 2 rfl ?_
      refine g_iconst X dX12_enters__115 ?_
      refine g_iadd X dX12_enters__116 ?_
      refine g_iald X aM_31 dX12_enters__117 h (fun v38 h => ?_)
      refine g_sipush X dX12_enters__118 (by decide) ?_
      refine g_isub X dX12_enters__121 ?_
      refine g_lload_n X dX12_enters__122 0 rfl ?_
      refine g_callV (rest := []) X (fun u9 h9 => cp_X12_enters l E r N (a0 + 3) a0 (v38 - 1000) v2 t37 u9 h9) yy_X12_enters yi_X12_enters wdM_RX12_591 0 12 (gW_at oM) rfl rfl rfl (Nat.le_of_ble_eq_true rfl) dX12_enters__123 ⟨by decide, by decide⟩ ⟨rfl, rfl⟩ h (fun t39 h => ?_)
      refine g_goto (tgt := 356) X dX12_enters__126 (by decide) ?_
      exact g_vret X h dX12_enters__356
  · refine g_aload_n X dX12_enters__25 1 rfl ?_
    refine g_getR X fM_55 rfl dX12_enters__26 ?_
    refine g_aload_n X dX12_enters__29 1 rfl ?_
    refine g_getI X fM_51 rfl dX12_enters__30 h (fun v40 h => ?_)
    refine g_iconst X dX12_enters__33 ?_
    refine g_isub X dX12_enters__34 ?_
    refine g_iload_n X dX12_enters__35 2 rfl ?_
    refine g_iconst X dX12_enters__36 ?_
    refine g_iadd X dX12_enters__37 ?_
    refine g_iast X aM_55 dX12_enters__38 h (fun t41 h => ?_)
    refine g_aload_n X dX12_enters__39 1 rfl ?_
    refine g_getR X fM_31 rfl dX12_enters__40 ?_
    refine g_iload_n X dX12_enters__43 2 rfl ?_
    refine g_iconst X dX12_enters__44 ?_
    refine g_iadd X dX12_enters__45 ?_
    refine g_iald X aM_31 dX12_enters__46 h (fun v42 h => ?_)
    refine g_sipush X dX12_enters__47 (by decide) ?_
    refine g_isub X dX12_enters__50 ?_
    refine g_istore (lv' := [(5, iv (v42 - 4000)), (3, .long v2), (0, .ref (r 200)), (1, iv a0), (2, iv a1)]) X dX12_enters__51 (by decide) rfl ?_
    refine g_aload_n X dX12_enters__53 2 rfl ?_
    refine g_aload_n X dX12_enters__54 2 rfl ?_
    refine g_getR X fM_29 rfl dX12_enters__55 ?_
    refine g_iload X dX12_enters__58 0 rfl ?_
    refine g_iald X aM_29 dX12_enters__60 h (fun v43 h => ?_)
    refine g_iconst X dX12_enters__61 ?_
    refine g_iadd X dX12_enters__62 ?_
    refine g_aload_n X dX12_enters__63 2 rfl ?_
    refine g_getR X fM_29 rfl dX12_enters__64 ?_
    refine g_iload X dX12_enters__67 0 rfl ?_
    refine g_iald X aM_29 dX12_enters__69 h (fun v44 h => ?_)
    refine g_iconst X dX12_enters__70 ?_
    refine g_lload_n X dX12_enters__71 1 rfl ?_
    refine g_callV (rest := []) X (fun u9 h9 => cp_X12_enters l E r N (v43 + 1) v44 0 v2 t41 u9 h9) yy_X12_enters yi_X12_enters wdM_RX12_591 0 12 (gW_at oM) rfl rfl rfl (Nat.le_of_ble_eq_true rfl) dX12_enters__72 ⟨by decide, by decide⟩ ⟨rfl, rfl⟩ h (fun t45 h => ?_)
    refine g_goto (tgt := 356) X dX12_enters__75 (by decide) ?_
    exact g_vret X h dX12_enters__356
set_option maxHeartbeats 4000000 in
set_option maxRecDepth 100000 in
theorem cp_X12_enters_ (l : Launch) (E : cE) (r : Nat → Nat) (N : Nat) (a0 : Int) (a1 : Int) (t : St) (z : St) (h : f_X12_enters_ N a0 a1 t = some z) : cM l E yX12_enters_ cX12_enters_ 9 none rm_f_X12_enters_ [.ref (r 200), iv a0, iv a1] (gW E r shM t) (gqV E (gW E r shM) z) := by
  refine g_of (w := gW E r shM) (by decide) (Nat.le_of_ble_eq_true rfl) ?_
  intro p e s m below meth c A X
  exact g_sub (lv' := [(0, .ref (r 200)), (1, iv a0), (2, iv a1)]) [0, 1, 2] rfl (b_f_X12_enters_ X h)
theorem yy_X12_enters_ : cY yX12_enters_ cX12_enters_ 9 none 2 := ⟨wdK_X12_enters_, wdZ_RX12, by decide +kernel⟩
theorem yi_X12_enters_ : cYi yX12_enters_ := ⟨wdN_X12_enters_, wdS_X12_enters_⟩
