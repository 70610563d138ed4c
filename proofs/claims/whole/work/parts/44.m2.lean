theorem dX12_everybody_0 : decode cX12_everybody 0 = .ok (.aload_n 0, 1) := by decide +kernel
theorem dX12_everybody_1 : decode cX12_everybody 1 = .ok (.getfield 231, 3) := by decide +kernel
theorem dX12_everybody_4 : decode cX12_everybody 4 = .ok (.bipush 64, 2) := by decide +kernel
theorem dX12_everybody_6 : decode cX12_everybody 6 = .ok (.if_icmp .ne 9, 3) := by decide +kernel
theorem dX12_everybody_9 : decode cX12_everybody 9 = .ok (.ldc2_w 440, 3) := by decide +kernel
theorem dX12_everybody_12 : decode cX12_everybody 12 = .ok (.goto 12, 3) := by decide +kernel
theorem dX12_everybody_15 : decode cX12_everybody 15 = .ok (.aload_n 0, 1) := by decide +kernel
theorem dX12_everybody_16 : decode cX12_everybody 16 = .ok (.getfield 231, 3) := by decide +kernel
theorem dX12_everybody_19 : decode cX12_everybody 19 = .ok (.invokestatic 442, 3) := by decide +kernel
theorem dX12_everybody_22 : decode cX12_everybody 22 = .ok (.lconst 1, 1) := by decide +kernel
theorem dX12_everybody_23 : decode cX12_everybody 23 = .ok (.lsub, 1) := by decide +kernel
theorem dX12_everybody_24 : decode cX12_everybody 24 = .ok (.lreturn, 1) := by decide +kernel
abbrev rm_f_X12_everybody : Room := { frames := 1, cells := 0, slots := 0, locals := 20 }
def f_X12_everybody (N : Nat) (t : St) : Option (Int64 × St) :=
    lt1 (t.1 200 37) fun v1 =>
    cmpI v1 64 (if v1 = 64 then (some ((-1 : Int64), t))
    else (lt1 (t.1 200 37) fun v2 =>
    bdL (f_X12_one N v2 t) fun v4 t3 =>
    some (v4 - (1 : Int64), t3)))
set_option maxHeartbeats 4000000 in
set_option maxRecDepth 100000 in
theorem b_f_X12_everybody {p : Program} {l : Launch} {e : Env} {s : State} {m : MethodId} {args : Array Value} {below : List Frame} {meth : Method} {c : Code} {E : cE} {A : Nat → Prop} {r : Nat → Nat} {mc ms : Nat} {z : Int64 × St} {N : Nat} {t : St} (X : gX p s m meth c cX12_everybody 1 (some .long) yX12_everybody args E A) (h : f_X12_everybody N t = some z) : gP p l e rm_f_X12_everybody s m args below meth c E A 1 (MQ below ((gqL E (gW E r shM) z) A) args s mc ms A) (gW E r shM) 0 [(0, .ref (r 200))] [] t := by
  unfold f_X12_everybody at h
  refine g_aload_n X dX12_everybody_0 0 rfl ?_
  refine g_getI X fM_37 rfl dX12_everybody_1 h (fun v1 h => ?_)
  refine g_bipush X dX12_everybody_4 (by decide) ?_
  refine g_icmp_ne (tgt := 15) X dX12_everybody_6 (by decide) h (fun h => ?_) (fun h => ?_)
  · refine g_aload_n X dX12_everybody_15 0 rfl ?_
    refine g_getI X fM_37 rfl dX12_everybody_16 h (fun v2 h => ?_)
    refine g_callsL (rest := []) X (fun u9 h9 => cp_X12_one l E r N v2 t u9 h9) yy_X12_one wdT_X12_one wdM_RX12_442 rfl rfl (Nat.le_of_ble_eq_true rfl) dX12_everybody_19 ⟨by decide, by decide⟩ ⟨rfl, rfl⟩ h (fun v4 t3 h => ?_)
    refine g_lconst (v := 1) X dX12_everybody_22 (by decide) ?_
    refine g_lsub X dX12_everybody_23 ?_
    exact g_lret X h dX12_everybody_24
  · refine g_ldc2 X rfl wdL_RX12_440 dX12_everybody_9 ?_
    refine g_goto (tgt := 24) X dX12_everybody_12 (by decide) ?_
    exact g_lret X h dX12_everybody_24
set_option maxHeartbeats 4000000 in
set_option maxRecDepth 100000 in
theorem cp_X12_everybody (l : Launch) (E : cE) (r : Nat → Nat) (N : Nat) (t : St) (z : Int64 × St) (h : f_X12_everybody N t = some z) : cM l E yX12_everybody cX12_everybody 1 (some .long) rm_f_X12_everybody [.ref (r 200)] (gW E r shM t) (gqL E (gW E r shM) z) := by
  refine g_of (w := gW E r shM) (by decide) (Nat.le_of_ble_eq_true rfl) ?_
  intro p e s m below meth c A X
  exact g_sub (lv' := [(0, .ref (r 200))]) [0] rfl (b_f_X12_everybody X h)
theorem yy_X12_everybody : cY yX12_everybody cX12_everybody 1 (some .long) 0 := ⟨wdK_X12_everybody, wdZ_RX12, by decide +kernel⟩
theorem yi_X12_everybody : cYi yX12_everybody := ⟨wdN_X12_everybody, wdS_X12_everybody⟩
theorem dX12_sizeOf_0 : decode cX12_sizeOf 0 = .ok (.iconst 0, 1) := by decide +kernel
theorem dX12_sizeOf_1 : decode cX12_sizeOf 1 = .ok (.istore_n 2, 1) := by decide +kernel
theorem dX12_sizeOf_2 : decode cX12_sizeOf 2 = .ok (.iconst 0, 1) := by decide +kernel
theorem dX12_sizeOf_3 : decode cX12_sizeOf 3 = .ok (.istore_n 3, 1) := by decide +kernel
theorem dX12_sizeOf_4 : decode cX12_sizeOf 4 = .ok (.iload_n 3, 1) := by decide +kernel
theorem dX12_sizeOf_5 : decode cX12_sizeOf 5 = .ok (.bipush 64, 2) := by decide +kernel
theorem dX12_sizeOf_7 : decode cX12_sizeOf 7 = .ok (.if_icmp .ge 25, 3) := by decide +kernel
theorem dX12_sizeOf_10 : decode cX12_sizeOf 10 = .ok (.iload_n 2, 1) := by decide +kernel
theorem dX12_sizeOf_11 : decode cX12_sizeOf 11 = .ok (.lload_n 0, 1) := by decide +kernel
theorem dX12_sizeOf_12 : decode cX12_sizeOf 12 = .ok (.iload_n 3, 1) := by decide +kernel
theorem dX12_sizeOf_13 : decode cX12_sizeOf 13 = .ok (.invokestatic 446, 3) := by decide +kernel
theorem dX12_sizeOf_16 : decode cX12_sizeOf 16 = .ok (.ifCond .eq 7, 3) := by decide +kernel
theorem dX12_sizeOf_19 : decode cX12_sizeOf 19 = .ok (.iconst 1, 1) := by decide +kernel
theorem dX12_sizeOf_20 : decode cX12_sizeOf 20 = .ok (.goto 4, 3) := by decide +kernel
theorem dX12_sizeOf_23 : decode cX12_sizeOf 23 = .ok (.iconst 0, 1) := by decide +kernel
theorem dX12_sizeOf_24 : decode cX12_sizeOf 24 = .ok (.iadd, 1) := by decide +kernel
theorem dX12_sizeOf_25 : decode cX12_sizeOf 25 = .ok (.istore_n 2, 1) := by decide +kernel
theorem dX12_sizeOf_26 : decode cX12_sizeOf 26 = .ok (.iinc 3 1, 3) := by decide +kernel
theorem dX12_sizeOf_29 : decode cX12_sizeOf 29 = .ok (.goto (-25), 3) := by decide +kernel
theorem dX12_sizeOf_32 : decode cX12_sizeOf 32 = .ok (.iload_n 2, 1) := by decide +kernel
theorem dX12_sizeOf_33 : decode cX12_sizeOf 33 = .ok (.ireturn, 1) := by decide +kernel
abbrev rm_f_X12_sizeOf : Room := { frames := 1, cells := 0, slots := 0, locals := 22 }
def f_X12_sizeOf_L4 (N : Nat) (K5 : (Int → St → Option (Int × St))) (y1 : Int64) : Nat → Int → Int → St → Option (Int × St)
  | 0, _, _, _ => none
  | n9 + 1, x2, x3, t4 =>
    cmpI x3 64 (if x3 < 64 then (bdI (f_X12_has N y1 x3 t4) fun v7 t6 =>
    jn1 (fun (j8 : Int) (t9 : St) => f_X12_sizeOf_L4 N K5 y1 n9 (x2 + j8) (x3 + 1) t9) fun J10 =>
    cmpI v7 0 (if v7 = 0 then (J10 0 t6)
    else (J10 1 t6)))
    else (K5 x2 t4))
def f_X12_sizeOf (N : Nat) (a0 : Int64) (t : St) : Option (Int × St) :=
    f_X12_sizeOf_L4 N (fun (k11 : Int) (t12 : St) => some (k11, t12)) a0 N 0 0 t
set_option maxHeartbeats 4000000 in
set_option maxRecDepth 100000 in
theorem t_f_X12_sizeOf_L4 {p : Program} {l : Launch} {e : Env} {s : State} {m : MethodId} {args : Array Value} {below : List Frame} {meth : Method} {c : Code} {E : cE} {A : Nat → Prop} {r : Nat → Nat} {mc ms : Nat} {z : Int × St} {N : Nat} {K5 : (Int → St → Option (Int × St))} {y1 : Int64} (X : gX p s m meth c cX12_sizeOf 4 (some .int) yX12_sizeOf args E A) (hK5 : ∀ (q2 : Int) (t9 : St), K5 q2 t9 = some z → gP p l e rm_f_X12_sizeOf s m args below meth c E A 4 (MQ below ((gqI E (gW E r shM) z) A) args s mc ms A) (gW E r shM) 32 [(2, iv q2)] [] t9) : ∀ (n9 : Nat) (x2 : Int) (x3 : Int) (t4 : St), f_X12_sizeOf_L4 N K5 y1 n9 x2 x3 t4 = some z → gP p l e rm_f_X12_sizeOf s m args below meth c E A 4 (MQ below ((gqI E (gW E r shM) z) A) args s mc ms A) (gW E r shM) 4 [(0, .long y1), (2, iv x2), (3, iv x3)] [] t4 := by
  intro n9
  induction n9 with
  | zero => intro x2 x3 t4 h; cases h
  | succ n9 ih =>
    intro x2 x3 t4 h
    unfold f_X12_sizeOf_L4 at h
    refine g_iload_n X dX12_sizeOf_4 2 rfl ?_
    refine g_bipush X dX12_sizeOf_5 (by decide) ?_
    refine g_icmp_ge (tgt := 32) X dX12_sizeOf_7 (by decide) h (fun h => ?_) (fun h => ?_)
    · exact g_sub (lv' := [(2, iv x2)]) [1] rfl (hK5 x2 t4 h)
    · refine g_iload_n X dX12_sizeOf_10 1 rfl ?_
      refine g_lload_n X dX12_sizeOf_11 0 rfl ?_
      refine g_iload_n X dX12_sizeOf_12 2 rfl ?_
      refine g_callsI (rest := [iv x2]) X (fun u9 h9 => cp_X12_has l E r N y1 x3 t4 u9 h9) yy_X12_has wdT_X12_has wdM_RX12_446 rfl rfl (Nat.le_of_ble_eq_true rfl) dX12_sizeOf_13 ⟨by decide, by decide⟩ ⟨rfl, rfl⟩ h (fun v7 t6 h => ?_)
      refine g_join (J := fun jj => ∀ (j8 : Int) (t9 : St), jj j8 t9 = some z → gP p l e rm_f_X12_sizeOf s m args below meth c E A 4 (MQ below ((gqI E (gW E r shM) z) A) args s mc ms A) (gW E r shM) 24 [(0, .long y1), (3, iv x3)] [iv j8, iv x2] t9) h (fun j8 t9 h => ?_) (fun J10 hJ10 h => ?_)
      · refine g_iadd X dX12_sizeOf_24 ?_
        refine g_istore_n (lv' := [(2, iv (x2 + j8)), (0, .long y1), (3, iv x3)]) X dX12_sizeOf_25 rfl (by decide) rfl ?_
        refine g_iinc (lv' := [(3, iv (x3 + 1)), (2, iv (x2 + j8)), (0, .long y1)]) X dX12_sizeOf_26 (k := 2) rfl (by decide) rfl ?_
        refine g_goto (tgt := 4) X dX12_sizeOf_29 (by decide) ?_
        exact g_sub (lv' := [(0, .long y1), (2, iv (x2 + j8)), (3, iv (x3 + 1))]) [2, 1, 0] rfl (ih (x2 + j8) (x3 + 1) t9 h)
      refine g_if_eq (tgt := 23) X dX12_sizeOf_16 (by decide) h (fun h => ?_) (fun h => ?_)
      · refine g_iconst X dX12_sizeOf_23 ?_
        exact g_sub (lv' := [(0, .long y1), (3, iv x3)]) [0, 2] rfl (hJ10 0 t6 h)
      · refine g_iconst X dX12_sizeOf_19 ?_
        refine g_goto (tgt := 24) X dX12_sizeOf_20 (by decide) ?_
        exact g_sub (lv' := [(0, .long y1), (3, iv x3)]) [0, 2] rfl (hJ10 1 t6 h)
set_option maxHeartbeats 4000000 in
set_option maxRecDepth 100000 in
theorem b_f_X12_sizeOf {p : Program} {l : Launch} {e : Env} {s : State} {m : MethodId} {args : Array Value} {below : List Frame} {meth : Method} {c : Code} {E : cE} {A : Nat → Prop} {r : Nat → Nat} {mc ms : Nat} {z : Int × St} {N : Nat} {a0 : Int64} {t : St} (X : gX p s m meth c cX12_sizeOf 4 (some .int) yX12_sizeOf args E A) (h : f_X12_sizeOf N a0 t = some z) : gP p l e rm_f_X12_sizeOf s m args below meth c E A 4 (MQ below ((gqI E (gW E r shM) z) A) args s mc ms A) (gW E r shM) 0 [(0, .long a0)] [] t := by
  unfold f_X12_sizeOf at h
  refine g_iconst X dX12_sizeOf_0 ?_
  refine g_istore_n (lv' := [(2, iv 0), (0, .long a0)]) X dX12_sizeOf_1 rfl (by decide) rfl ?_
  refine g_iconst X dX12_sizeOf_2 ?_
  refine g_istore_n (lv' := [(3, iv 0), (2, iv 0), (0, .long a0)]) X dX12_sizeOf_3 rfl (by decide) rfl ?_
  refine g_sub (lv' := [(0, .long a0), (2, iv 0), (3, iv 0)]) [2, 1, 0] rfl (t_f_X12_sizeOf_L4 X (fun k11 t12 h => ?_) N 0 0 t h)
  · refine g_iload_n X dX12_sizeOf_32 0 rfl ?_
    exact g_iret X h dX12_sizeOf_33
set_option maxHeartbeats 4000000 in
set_option maxRecDepth 100000 in
theorem cp_X12_sizeOf (l : Launch) (E : cE) (r : Nat → Nat) (N : Nat) (a0 : Int64) (t : St) (z : Int × St) (h : f_X12_sizeOf N a0 t = some z) : cM l E yX12_sizeOf cX12_sizeOf 4 (some .int) rm_f_X12_sizeOf [.long a0] (gW E r shM t) (gqI E (gW E r shM) z) := by
  refine g_of (w := gW E r shM) (by decide) (Nat.le_of_ble_eq_true rfl) ?_
  intro p e s m below meth c A X
  exact g_sub (lv' := [(0, .long a0)]) [0] rfl (b_f_X12_sizeOf X h)
theorem yy_X12_sizeOf : cY yX12_sizeOf cX12_sizeOf 4 (some .int) 1 := ⟨wdK_X12_sizeOf, wdZ_RX12, by decide +kernel⟩
theorem dX12_isBefore_0 : decode cX12_isBefore 0 = .ok (.aload_n 0, 1) := by decide +kernel
theorem dX12_isBefore_1 : decode cX12_isBefore 1 = .ok (.getfield 74, 3) := by decide +kernel
theorem dX12_isBefore_4 : decode cX12_isBefore 4 = .ok (.iload_n 1, 1) := by decide +kernel
theorem dX12_isBefore_5 : decode cX12_isBefore 5 = .ok (.iaload, 1) := by decide +kernel
theorem dX12_isBefore_6 : decode cX12_isBefore 6 = .ok (.aload_n 0, 1) := by decide +kernel
theorem dX12_isBefore_7 : decode cX12_isBefore 7 = .ok (.getfield 74, 3) := by decide +kernel
theorem dX12_isBefore_10 : decode cX12_isBefore 10 = .ok (.iload_n 2, 1) := by decide +kernel
theorem dX12_isBefore_11 : decode cX12_isBefore 11 = .ok (.iaload, 1) := by decide +kernel
theorem dX12_isBefore_12 : decode cX12_isBefore 12 = .ok (.if_icmp .eq 26, 3) := by decide +kernel
theorem dX12_isBefore_15 : decode cX12_isBefore 15 = .ok (.aload_n 0, 1) := by decide +kernel
theorem dX12_isBefore_16 : decode cX12_isBefore 16 = .ok (.getfield 74, 3) := by decide +kernel
theorem dX12_isBefore_19 : decode cX12_isBefore 19 = .ok (.iload_n 1, 1) := by decide +kernel
theorem dX12_isBefore_20 : decode cX12_isBefore 20 = .ok (.iaload, 1) := by decide +kernel
theorem dX12_isBefore_21 : decode cX12_isBefore 21 = .ok (.aload_n 0, 1) := by decide +kernel
theorem dX12_isBefore_22 : decode cX12_isBefore 22 = .ok (.getfield 74, 3) := by decide +kernel
theorem dX12_isBefore_25 : decode cX12_isBefore 25 = .ok (.iload_n 2, 1) := by decide +kernel
theorem dX12_isBefore_26 : decode cX12_isBefore 26 = .ok (.iaload, 1) := by decide +kernel
theorem dX12_isBefore_27 : decode cX12_isBefore 27 = .ok (.if_icmp .ge 7, 3) := by decide +kernel
theorem dX12_isBefore_30 : decode cX12_isBefore 30 = .ok (.iconst 1, 1) := by decide +kernel
theorem dX12_isBefore_31 : decode cX12_isBefore 31 = .ok (.goto 27, 3) := by decide +kernel
theorem dX12_isBefore_34 : decode cX12_isBefore 34 = .ok (.iconst 0, 1) := by decide +kernel
theorem dX12_isBefore_35 : decode cX12_isBefore 35 = .ok (.goto 23, 3) := by decide +kernel
theorem dX12_isBefore_38 : decode cX12_isBefore 38 = .ok (.aload_n 0, 1) := by decide +kernel
theorem dX12_isBefore_39 : decode cX12_isBefore 39 = .ok (.getfield 71, 3) := by decide +kernel
theorem dX12_isBefore_42 : decode cX12_isBefore 42 = .ok (.iload_n 1, 1) := by decide +kernel
theorem dX12_isBefore_43 : decode cX12_isBefore 43 = .ok (.iaload, 1) := by decide +kernel
theorem dX12_isBefore_44 : decode cX12_isBefore 44 = .ok (.aload_n 0, 1) := by decide +kernel
theorem dX12_isBefore_45 : decode cX12_isBefore 45 = .ok (.getfield 71, 3) := by decide +kernel
theorem dX12_isBefore_48 : decode cX12_isBefore 48 = .ok (.iload_n 2, 1) := by decide +kernel
theorem dX12_isBefore_49 : decode cX12_isBefore 49 = .ok (.iaload, 1) := by decide +kernel
theorem dX12_isBefore_50 : decode cX12_isBefore 50 = .ok (.if_icmp .ge 7, 3) := by decide +kernel
theorem dX12_isBefore_53 : decode cX12_isBefore 53 = .ok (.iconst 1, 1) := by decide +kernel
theorem dX12_isBefore_54 : decode cX12_isBefore 54 = .ok (.goto 4, 3) := by decide +kernel
theorem dX12_isBefore_57 : decode cX12_isBefore 57 = .ok (.iconst 0, 1) := by decide +kernel
theorem dX12_isBefore_58 : decode cX12_isBefore 58 = .ok (.ireturn, 1) := by decide +kernel
abbrev rm_f_X12_isBefore : Room := { frames := 0, cells := 0, slots := 0, locals := 0 }
def f_X12_isBefore (N : Nat) (a0 : Int) (a1 : Int) (t : St) : Option (Int × St) :=
    ixI a0 64 (lt1 (t.1 39 a0.toNat) fun v1 =>
    ixI a1 64 (lt1 (t.1 39 a1.toNat) fun v2 =>
    cmpI v1 v2 (if v1 = v2 then (ixI a0 64 (lt1 (t.1 38 a0.toNat) fun v3 =>
    ixI a1 64 (lt1 (t.1 38 a1.toNat) fun v4 =>
    cmpI v3 v4 (if v3 < v4 then (boI 1 (some (1, t)))
    else (boI 0 (some (0, t)))))))
    else (ixI a0 64 (lt1 (t.1 39 a0.toNat) fun v5 =>
    ixI a1 64 (lt1 (t.1 39 a1.toNat) fun v6 =>
    cmpI v5 v6 (if v5 < v6 then (boI 1 (some (1, t)))
    else (boI 0 (some (0, t))))))))))
set_option maxHeartbeats 4000000 in
set_option maxRecDepth 100000 in
theorem b_f_X12_isBefore {p : Program} {l : Launch} {e : Env} {s : State} {m : MethodId} {args : Array Value} {below : List Frame} {meth : Method} {c : Code} {E : cE} {A : Nat → Prop} {r : Nat → Nat} {mc ms : Nat} {z : Int × St} {N : Nat} {a0 : Int} {a1 : Int} {t : St} (X : gX p s m meth c cX12_isBefore 3 (some .boolean) yX12_isBefore args E A) (h : f_X12_isBefore N a0 a1 t = some z) : gP p l e rm_f_X12_isBefore s m args below meth c E A 3 (MQ below ((gqI E (gW E r shM) z) A) args s mc ms A) (gW E r shM) 0 [(0, .ref (r 200)), (1, iv a0), (2, iv a1)] [] t := by
  unfold f_X12_isBefore at h
  refine g_aload_n X dX12_isBefore_0 0 rfl ?_
  refine g_getR X fM_39 rfl dX12_isBefore_1 ?_
  refine g_iload_n X dX12_isBefore_4 1 rfl ?_
  refine g_iald X aM_39 dX12_isBefore_5 h (fun v1 h => ?_)
  refine g_aload_n X dX12_isBefore_6 0 rfl ?_
  refine g_getR X fM_39 rfl dX12_isBefore_7 ?_
  refine g_iload_n X dX12_isBefore_10 2 rfl ?_
  refine g_iald X aM_39 dX12_isBefore_11 h (fun v2 h => ?_)
  refine g_icmp_eq (tgt := 38) X dX12_isBefore_12 (by decide) h (fun h => ?_) (fun h => ?_)
  · refine g_aload_n X dX12_isBefore_38 0 rfl ?_
    refine g_getR X fM_38 rfl dX12_isBefore_39 ?_
    refine g_iload_n X dX12_isBefore_42 1 rfl ?_
    refine g_iald X aM_38 dX12_isBefore_43 h (fun v3 h => ?_)
    refine g_aload_n X dX12_isBefore_44 0 rfl ?_
    refine g_getR X fM_38 rfl dX12_isBefore_45 ?_
    refine g_iload_n X dX12_isBefore_48 2 rfl ?_
    refine g_iald X aM_38 dX12_isBefore_49 h (fun v4 h => ?_)
    refine g_icmp_ge (tgt := 57) X dX12_isBefore_50 (by decide) h (fun h => ?_) (fun h => ?_)
    · refine g_iconst X dX12_isBefore_57 ?_
      exact g_zret X h dX12_isBefore_58
    · refine g_iconst X dX12_isBefore_53 ?_
      refine g_goto (tgt := 58) X dX12_isBefore_54 (by decide) ?_
      exact g_zret X h dX12_isBefore_58
  · refine g_aload_n X dX12_isBefore_15 0 rfl ?_
    refine g_getR X fM_39 rfl dX12_isBefore_16 ?_
    refine g_iload_n X dX12_isBefore_19 1 rfl ?_
    refine g_iald X aM_39 dX12_isBefore_20 h (fun v5 h => ?_)
    refine g_aload_n X dX12_isBefore_21 0 rfl ?_
    refine g_getR X fM_39 rfl dX12_isBefore_22 ?_
    refine g_iload_n X dX12_isBefore_25 2 rfl ?_
    refine g_iald X aM_39 dX12_isBefore_26 h (fun v6 h => ?_)
    refine g_icmp_ge (tgt := 34) X dX12_isBefore_27 (by decide) h (fun h => ?_) (fun h => ?_)
    · refine g_iconst X dX12_isBefore_34 ?_
      refine g_goto (tgt := 58) X dX12_isBefore_35 (by decide) ?_
      exact g_zret X h dX12_isBefore_58
    · refine g_iconst X dX12_isBefore_30 ?_
      refine g_goto (tgt := 58) X dX12_isBefore_31 (by decide) ?_
      exact g_zret X h dX12_isBefore_58
set_option maxHeartbeats 4000000 in
set_option maxRecDepth 100000 in
theorem cp_X12_isBefore (l : Launch) (E : cE) (r : Nat → Nat) (N : Nat) (a0 : Int) (a1 : Int) (t : St) (z : Int × St) (h : f_X12_isBefore N a0 a1 t = some z) : cM l E yX12_isBefore cX12_isBefore 3 (some .boolean) rm_f_X12_isBefore [.ref (r 200), iv a0, iv a1] (gW E r shM t) (gqI E (gW E r shM) z) := by
  refine g_of (w := gW E r shM) (by decide) (Nat.le_of_ble_eq_true rfl) ?_
  intro p e s m below meth c A X
  exact g_sub (lv' := [(0, .ref (r 200)), (1, iv a0), (2, iv a1)]) [0, 1, 2] rfl (b_f_X12_isBefore X h)
theorem yy_X12_isBefore : cY yX12_isBefore cX12_isBefore 3 (some .boolean) 2 := ⟨wdK_X12_isBefore, wdZ_RX12, by decide +kernel⟩
theorem yi_X12_isBefore : cYi yX12_isBefore := ⟨wdN_X12_isBefore, wdS_X12_isBefore⟩
theorem dX12_sort_0 : decode cX12_sort 0 = .ok (.iconst 0, 1) := by decide +kernel
theorem dX12_sort_1 : decode cX12_sort 1 = .ok (.istore_n 1, 1) := by decide +kernel
theorem dX12_sort_2 : decode cX12_sort 2 = .ok (.iload_n 1, 1) := by decide +kernel
theorem dX12_sort_3 : decode cX12_sort 3 = .ok (.aload_n 0, 1) := by decide +kernel
theorem dX12_sort_4 : decode cX12_sort 4 = .ok (.getfield 231, 3) := by decide +kernel
theorem dX12_sort_7 : decode cX12_sort 7 = .ok (.if_icmp .ge 58, 3) := by decide +kernel
theorem dX12_sort_10 : decode cX12_sort 10 = .ok (.iload_n 1, 1) := by decide +kernel
theorem dX12_sort_11 : decode cX12_sort 11 = .ok (.istore_n 2, 1) := by decide +kernel
theorem dX12_sort_12 : decode cX12_sort 12 = .ok (.iload_n 2, 1) := by decide +kernel
theorem dX12_sort_13 : decode cX12_sort 13 = .ok (.ifCond .le 39, 3) := by decide +kernel
theorem dX12_sort_16 : decode cX12_sort 16 = .ok (.aload_n 0, 1) := by decide +kernel
theorem dX12_sort_17 : decode cX12_sort 17 = .ok (.iload_n 1, 1) := by decide +kernel
theorem dX12_sort_18 : decode cX12_sort 18 = .ok (.aload_n 0, 1) := by decide +kernel
theorem dX12_sort_19 : decode cX12_sort 19 = .ok (.getfield 162, 3) := by decide +kernel
theorem dX12_sort_22 : decode cX12_sort 22 = .ok (.iload_n 2, 1) := by decide +kernel
theorem dX12_sort_23 : decode cX12_sort 23 = .ok (.iconst 1, 1) := by decide +kernel
theorem dX12_sort_24 : decode cX12_sort 24 = .ok (.isub, 1) := by decide +kernel
theorem dX12_sort_25 : decode cX12_sort 25 = .ok (.iaload, 1) := by decide +kernel
theorem dX12_sort_26 : decode cX12_sort 26 = .ok (.invokevirtual 467, 3) := by decide +kernel
theorem dX12_sort_29 : decode cX12_sort 29 = .ok (.ifCond .eq 23, 3) := by decide +kernel
theorem dX12_sort_32 : decode cX12_sort 32 = .ok (.aload_n 0, 1) := by decide +kernel
theorem dX12_sort_33 : decode cX12_sort 33 = .ok (.getfield 162, 3) := by decide +kernel
theorem dX12_sort_36 : decode cX12_sort 36 = .ok (.iload_n 2, 1) := by decide +kernel
theorem dX12_sort_37 : decode cX12_sort 37 = .ok (.aload_n 0, 1) := by decide +kernel
theorem dX12_sort_38 : decode cX12_sort 38 = .ok (.getfield 162, 3) := by decide +kernel
theorem dX12_sort_41 : decode cX12_sort 41 = .ok (.iload_n 2, 1) := by decide +kernel
theorem dX12_sort_42 : decode cX12_sort 42 = .ok (.iconst 1, 1) := by decide +kernel
theorem dX12_sort_43 : decode cX12_sort 43 = .ok (.isub, 1) := by decide +kernel
theorem dX12_sort_44 : decode cX12_sort 44 = .ok (.iaload, 1) := by decide +kernel
theorem dX12_sort_45 : decode cX12_sort 45 = .ok (.iastore, 1) := by decide +kernel
theorem dX12_sort_46 : decode cX12_sort 46 = .ok (.iinc 2 (-1), 3) := by decide +kernel
theorem dX12_sort_49 : decode cX12_sort 49 = .ok (.goto (-37), 3) := by decide +kernel
theorem dX12_sort_52 : decode cX12_sort 52 = .ok (.aload_n 0, 1) := by decide +kernel
theorem dX12_sort_53 : decode cX12_sort 53 = .ok (.getfield 162, 3) := by decide +kernel
theorem dX12_sort_56 : decode cX12_sort 56 = .ok (.iload_n 2, 1) := by decide +kernel
theorem dX12_sort_57 : decode cX12_sort 57 = .ok (.iload_n 1, 1) := by decide +kernel
theorem dX12_sort_58 : decode cX12_sort 58 = .ok (.iastore, 1) := by decide +kernel
theorem dX12_sort_59 : decode cX12_sort 59 = .ok (.iinc 1 1, 3) := by decide +kernel
theorem dX12_sort_62 : decode cX12_sort 62 = .ok (.goto (-60), 3) := by decide +kernel
theorem dX12_sort_65 : decode cX12_sort 65 = .ok (.return_, 1) := by decide +kernel
abbrev rm_f_X12_sort : Room := { frames := 1, cells := 0, slots := 0, locals := 22 }
def f_X12_sort_L12 (N : Nat) (K8 : (Int → St → Option (St))) (y5 : Int) : Nat → Int → St → Option (St)
  | 0, _, _ => none
  | n9 + 1, x6, t7 =>
    cmpI x6 0 (if 0 < x6 then (ixI (x6 - 1) 64 (lt1 (t7.1 80 (x6 - 1).toNat) fun v9 =>
    bdI (f_X12_isBefore N y5 v9 t7) fun v11 t10 =>
    cmpI v11 0 (if v11 = 0 then (K8 x6 t10)
    else (ixI (x6 - 1) 64 (lt1 (t10.1 80 (x6 - 1).toNat) fun v12 =>
    ixI x6 64 (lt1 (pI t10 80 x6.toNat v12) fun t13 =>
    f_X12_sort_L12 N K8 y5 n9 (x6 + (-1)) t13))))))
    else (K8 x6 t7))
def f_X12_sort_L2 (N : Nat) (K3 : (St → Option (St))) : Nat → Int → St → Option (St)
  | 0, _, _ => none
  | n9 + 1, x1, t2 =>
    lt1 (t2.1 200 37) fun v4 =>
    cmpI x1 v4 (if x1 < v4 then (f_X12_sort_L12 N (fun (k14 : Int) (t15 : St) => ixI k14 64 (lt1 (pI t15 80 k14.toNat x1) fun t16 =>
    f_X12_sort_L2 N K3 n9 (x1 + 1) t16)) x1 N x1 t2)
    else (K3 t2))
def f_X12_sort (N : Nat) (t : St) : Option (St) :=
    f_X12_sort_L2 N (fun (t17 : St) => some t17) N 0 t
set_option maxHeartbeats 4000000 in
set_option maxRecDepth 100000 in
theorem t_f_X12_sort_L12 {p : Program} {l : Launch} {e : Env} {s : State} {m : MethodId} {args : Array Value} {below : List Frame} {meth : Method} {c : Code} {E : cE} {A : Nat → Prop} {r : Nat → Nat} {mc ms : Nat} {z : St} {N : Nat} {K8 : (Int → St → Option (St))} {y5 : Int} (X : gX p s m meth c cX12_sort 3 none yX12_sort args E A) (hK8 : ∀ (q2 : Int) (t9 : St), K8 q2 t9 = some z → gP p l e rm_f_X12_sort s m args below meth c E A 3 (MQ below ((gqV E (gW E r shM) z) A) args s mc ms A) (gW E r shM) 52 [(0, .ref (r 200)), (1, iv y5), (2, iv q2)] [] t9) : ∀ (n9 : Nat) (x6 : Int) (t7 : St), f_X12_sort_L12 N K8 y5 n9 x6 t7 = some z → gP p l e rm_f_X12_sort s m args below meth c E A 3 (MQ below ((gqV E (gW E r shM) z) A) args s mc ms A) (gW E r shM) 12 [(0, .ref (r 200)), (1, iv y5), (2, iv x6)] [] t7 := by
  intro n9
  induction n9 with
  | zero => intro x6 t7 h; cases h
  | succ n9 ih =>
    intro x6 t7 h
    unfold f_X12_sort_L12 at h
    refine g_iload_n X dX12_sort_12 2 rfl ?_
    refine g_if_le (tgt := 52) X dX12_sort_13 (by decide) h (fun h => ?_) (fun h => ?_)
    · exact g_sub (lv' := [(0, .ref (r 200)), (1, iv y5), (2, iv x6)]) [0, 1, 2] rfl (hK8 x6 t7 h)
    · refine g_aload_n X dX12_sort_16 0 rfl ?_
      refine g_iload_n X dX12_sort_17 1 rfl ?_
      refine g_aload_n X dX12_sort_18 0 rfl ?_
      refine g_getR X fM_80 rfl dX12_sort_19 ?_
      refine g_iload_n X dX12_sort_22 2 rfl ?_
      refine g_iconst X dX12_sort_23 ?_
      refine g_isub X dX12_sort_24 ?_
      refine g_iald X aM_80 dX12_sort_25 h (fun v9 h => ?_)
      refine g_callI (rest := []) X (fun u9 h9 => cp_X12_isBefore l E r N y5 v9 t7 u9 h9) yy_X12_isBefore yi_X12_isBefore wdM_RX12_467 0 12 (gW_at oM) rfl rfl rfl (Nat.le_of_ble_eq_true rfl) dX12_sort_26 ⟨by decide, by decide⟩ ⟨rfl, rfl⟩ h (fun v11 t10 h => ?_)
      refine g_if_eq (tgt := 52) X dX12_sort_29 (by decide) h (fun h => ?_) (fun h => ?_)
      · exact g_sub (lv' := [(0, .ref (r 200)), (1, iv y5), (2, iv x6)]) [0, 1, 2] rfl (hK8 x6 t10 h)
      · refine g_aload_n X dX12_sort_32 0 rfl ?_
        refine g_getR X fM_80 rfl dX12_sort_33 ?_
        refine g_iload_n X dX12_sort_36 2 rfl ?_
        refine g_aload_n X dX12_sort_37 0 rfl ?_
        refine g_getR X fM_80 rfl dX12_sort_38 ?_
        refine g_iload_n X dX12_sort_41 2 rfl ?_
        refine g_iconst X dX12_sort_42 ?_
        refine g_isub X dX12_sort_43 ?_
        refine g_iald X aM_80 dX12_sort_44 h (fun v12 h => ?_)
        refine g_iast X aM_80 dX12_sort_45 h (fun t13 h => ?_)
        refine g_iinc (lv' := [(2, iv (x6 + (-1))), (0, .ref (r 200)), (1, iv y5)]) X dX12_sort_46 (k := 2) rfl (by decide) rfl ?_
        refine g_goto (tgt := 12) X dX12_sort_49 (by decide) ?_
        exact g_sub (lv' := [(0, .ref (r 200)), (1, iv y5), (2, iv (x6 + (-1)))]) [1, 2, 0] rfl (ih (x6 + (-1)) t13 h)
set_option maxHeartbeats 4000000 in
set_option maxRecDepth 100000 in
theorem t_f_X12_sort_L2 {p : Program} {l : Launch} {e : Env} {s : State} {m : MethodId} {args : Array Value} {below : List Frame} {meth : Method} {c : Code} {E : cE} {A : Nat → Prop} {r : Nat → Nat} {mc ms : Nat} {z : St} {N : Nat} {K3 : (St → Option (St))} (X : gX p s m meth c cX12_sort 3 none yX12_sort args E A) (hK3 : ∀ (t9 : St), K3 t9 = some z → gP p l e rm_f_X12_sort s m args below meth c E A 3 (MQ below ((gqV E (gW E r shM) z) A) args s mc ms A) (gW E r shM) 65 [] [] t9) : ∀ (n9 : Nat) (x1 : Int) (t2 : St), f_X12_sort_L2 N K3 n9 x1 t2 = some z → gP p l e rm_f_X12_sort s m args below meth c E A 3 (MQ below ((gqV E (gW E r shM) z) A) args s mc ms A) (gW E r shM) 2 [(0, .ref (r 200)), (1, iv x1)] [] t2 := by
  intro n9
  induction n9 with
  | zero => intro x1 t2 h; cases h
  | succ n9 ih =>
    intro x1 t2 h
    unfold f_X12_sort_L2 at h
    refine g_iload_n X dX12_sort_2 1 rfl ?_
    refine g_aload_n X dX12_sort_3 0 rfl ?_
    refine g_getI X fM_37 rfl dX12_sort_4 h (fun v4 h => ?_)
    refine g_icmp_ge (tgt := 65) X dX12_sort_7 (by decide) h (fun h => ?_) (fun h => ?_)
    · exact g_sub (lv' := []) [] rfl (hK3 t2 h)
    · refine g_iload_n X dX12_sort_10 1 rfl ?_
      refine g_istore_n (lv' := [(2, iv x1), (0, .ref (r 200)), (1, iv x1)]) X dX12_sort_11 rfl (by decide) rfl ?_
      refine g_sub (lv' := [(0, .ref (r 200)), (1, iv x1), (2, iv x1)]) [1, 2, 0] rfl (t_f_X12_sort_L12 X (fun k14 t15 h => ?_) N x1 t2 h)
      · refine g_aload_n X dX12_sort_52 0 rfl ?_
        refine g_getR X fM_80 rfl dX12_sort_53 ?_
        refine g_iload_n X dX12_sort_56 2 rfl ?_
        refine g_iload_n X dX12_sort_57 1 rfl ?_
        refine g_iast X aM_80 dX12_sort_58 h (fun t16 h => ?_)
        refine g_iinc (lv' := [(1, iv (x1 + 1)), (0, .ref (r 200)), (2, iv k14)]) X dX12_sort_59 (k := 1) rfl (by decide) rfl ?_
        refine g_goto (tgt := 2) X dX12_sort_62 (by decide) ?_
        exact g_sub (lv' := [(0, .ref (r 200)), (1, iv (x1 + 1))]) [1, 0] rfl (ih (x1 + 1) t16 h)
set_option maxHeartbeats 4000000 in
set_option maxRecDepth 100000 in
theorem b_f_X12_sort {p : Program} {l : Launch} {e : Env} {s : State} {m : MethodId} {args : Array Value} {below : List Frame} {meth : Method} {c : Code} {E : cE} {A : Nat → Prop} {r : Nat → Nat} {mc ms : Nat} {z : St} {N : Nat} {t : St} (X : gX p s m meth c cX12_sort 3 none yX12_sort args E A) (h : f_X12_sort N t = some z) : gP p l e rm_f_X12_sort s m args below meth c E A 3 (MQ below ((gqV E (gW E r shM) z) A) args s mc ms A) (gW E r shM) 0 [(0, .ref (r 200))] [] t := by
  unfold f_X12_sort at h
  refine g_iconst X dX12_sort_0 ?_
  refine g_istore_n (lv' := [(1, iv 0), (0, .ref (r 200))]) X dX12_sort_1 rfl (by decide) rfl ?_
  refine g_sub (lv' := [(0, .ref (r 200)), (1, iv 0)]) [1, 0] rfl (t_f_X12_sort_L2 X (fun t17 h => ?_) N 0 t h)
  · exact g_vret X h dX12_sort_65
set_option maxHeartbeats 4000000 in
set_option maxRecDepth 100000 in
theorem cp_X12_sort (l : Launch) (E : cE) (r : Nat → Nat) (N : Nat) (t : St) (z : St) (h : f_X12_sort N t = some z) : cM l E yX12_sort cX12_sort 3 none rm_f_X12_sort [.ref (r 200)] (gW E r shM t) (gqV E (gW E r shM) z) := by
  refine g_of (w := gW E r shM) (by decide) (Nat.le_of_ble_eq_true rfl) ?_
  intro p e s m below meth c A X
  exact g_sub (lv' := [(0, .ref (r 200))]) [0] rfl (b_f_X12_sort X h)
theorem yy_X12_sort : cY yX12_sort cX12_sort 3 none 0 := ⟨wdK_X12_sort, wdZ_RX12, by decide +kernel⟩
theorem yi_X12_sort : cYi yX12_sort := ⟨wdN_X12_sort, wdS_X12_sort⟩
theorem dX12_turnedX_0 : decode cX12_turnedX 0 = .ok (.iload_n 2, 1) := by decide +kernel
theorem dX12_turnedX_1 : decode cX12_turnedX 1 = .ok (.ifCond .ne 7, 3) := by decide +kernel
theorem dX12_turnedX_4 : decode cX12_turnedX 4 = .ok (.iload_n 0, 1) := by decide +kernel
theorem dX12_turnedX_5 : decode cX12_turnedX 5 = .ok (.goto 24, 3) := by decide +kernel
theorem dX12_turnedX_8 : decode cX12_turnedX 8 = .ok (.iload_n 2, 1) := by decide +kernel
theorem dX12_turnedX_9 : decode cX12_turnedX 9 = .ok (.iconst 1, 1) := by decide +kernel
theorem dX12_turnedX_10 : decode cX12_turnedX 10 = .ok (.if_icmp .ne 7, 3) := by decide +kernel
theorem dX12_turnedX_13 : decode cX12_turnedX 13 = .ok (.iload_n 1, 1) := by decide +kernel
theorem dX12_turnedX_14 : decode cX12_turnedX 14 = .ok (.goto 15, 3) := by decide +kernel
theorem dX12_turnedX_17 : decode cX12_turnedX 17 = .ok (.iload_n 2, 1) := by decide +kernel
theorem dX12_turnedX_18 : decode cX12_turnedX 18 = .ok (.iconst 2, 1) := by decide +kernel
theorem dX12_turnedX_19 : decode cX12_turnedX 19 = .ok (.if_icmp .ne 8, 3) := by decide +kernel
theorem dX12_turnedX_22 : decode cX12_turnedX 22 = .ok (.iload_n 0, 1) := by decide +kernel
theorem dX12_turnedX_23 : decode cX12_turnedX 23 = .ok (.ineg, 1) := by decide +kernel
theorem dX12_turnedX_24 : decode cX12_turnedX 24 = .ok (.goto 5, 3) := by decide +kernel
theorem dX12_turnedX_27 : decode cX12_turnedX 27 = .ok (.iload_n 1, 1) := by decide +kernel
theorem dX12_turnedX_28 : decode cX12_turnedX 28 = .ok (.ineg, 1) := by decide +kernel
theorem dX12_turnedX_29 : decode cX12_turnedX 29 = .ok (.ireturn, 1) := by decide +kernel
abbrev rm_f_X12_turnedX : Room := { frames := 0, cells := 0, slots := 0, locals := 0 }
def f_X12_turnedX (N : Nat) (a0 : Int) (a1 : Int) (a2 : Int) (t : St) : Option (Int × St) :=
    cmpI a2 0 (if a2 = 0 then (some (a0, t))
    else (cmpI a2 1 (if a2 = 1 then (some (a1, t))
    else (cmpI a2 2 (if a2 = 2 then (some (-a0, t))
    else (some (-a1, t)))))))
set_option maxHeartbeats 4000000 in
set_option maxRecDepth 100000 in
theorem b_f_X12_turnedX {p : Program} {l : Launch} {e : Env} {s : State} {m : MethodId} {args : Array Value} {below : List Frame} {meth : Method} {c : Code} {E : cE} {A : Nat → Prop} {r : Nat → Nat} {mc ms : Nat} {z : Int × St} {N : Nat} {a0 : Int} {a1 : Int} {a2 : Int} {t : St} (X : gX p s m meth c cX12_turnedX 3 (some .int) yX12_turnedX args E A) (h : f_X12_turnedX N a0 a1 a2 t = some z) : gP p l e rm_f_X12_turnedX s m args below meth c E A 3 (MQ below ((gqI E (gW E r shM) z) A) args s mc ms A) (gW E r shM) 0 [(0, iv a0), (1, iv a1), (2, iv a2)] [] t := by
  unfold f_X12_turnedX at h
  refine g_iload_n X dX12_turnedX_0 2 rfl ?_
  refine g_if_ne (tgt := 8) X dX12_turnedX_1 (by decide) h (fun h => ?_) (fun h => ?_)
  · refine g_iload_n X dX12_turnedX_8 2 rfl ?_
    refine g_iconst X dX12_turnedX_9 ?_
    refine g_icmp_ne (tgt := 17) X dX12_turnedX_10 (by decide) h (fun h => ?_) (fun h => ?_)
    · refine g_iload_n X dX12_turnedX_17 2 rfl ?_
      refine g_iconst X dX12_turnedX_18 ?_
      refine g_icmp_ne (tgt := 27) X dX12_turnedX_19 (by decide) h (fun h => ?_) (fun h => ?_)
      · refine g_iload_n X dX12_turnedX_27 1 rfl ?_
        refine g_ineg X dX12_turnedX_28 ?_
        exact g_iret X h dX12_turnedX_29
      · refine g_iload_n X dX12_turnedX_22 0 rfl ?_
        refine g_ineg X dX12_turnedX_23 ?_
        refine g_goto (tgt := 29) X dX12_turnedX_24 (by decide) ?_
        exact g_iret X h dX12_turnedX_29
    · refine g_iload_n X dX12_turnedX_13 1 rfl ?_
      refine g_goto (tgt := 29) X dX12_turnedX_14 (by decide) ?_
      exact g_iret X h dX12_turnedX_29
  · refine g_iload_n X dX12_turnedX_4 0 rfl ?_
    refine g_goto (tgt := 29) X dX12_turnedX_5 (by decide) ?_
    exact g_iret X h dX12_turnedX_29
set_option maxHeartbeats 4000000 in
set_option maxRecDepth 100000 in
theorem cp_X12_turnedX (l : Launch) (E : cE) (r : Nat → Nat) (N : Nat) (a0 : Int) (a1 : Int) (a2 : Int) (t : St) (z : Int × St) (h : f_X12_turnedX N a0 a1 a2 t = some z) : cM l E yX12_turnedX cX12_turnedX 3 (some .int) rm_f_X12_turnedX [iv a0, iv a1, iv a2] (gW E r shM t) (gqI E (gW E r shM) z) := by
  refine g_of (w := gW E r shM) (by decide) (Nat.le_of_ble_eq_true rfl) ?_
  intro p e s m below meth c A X
  exact g_sub (lv' := [(0, iv a0), (1, iv a1), (2, iv a2)]) [0, 1, 2] rfl (b_f_X12_turnedX X h)
theorem yy_X12_turnedX : cY yX12_turnedX cX12_turnedX 3 (some .int) 3 := ⟨wdK_X12_turnedX, wdZ_RX12, by decide +kernel⟩
theorem dX12_turnedY_0 : decode cX12_turnedY 0 = .ok (.iload_n 2, 1) := by decide +kernel
theorem dX12_turnedY_1 : decode cX12_turnedY 1 = .ok (.ifCond .ne 7, 3) := by decide +kernel
theorem dX12_turnedY_4 : decode cX12_turnedY 4 = .ok (.iload_n 1, 1) := by decide +kernel
theorem dX12_turnedY_5 : decode cX12_turnedY 5 = .ok (.goto 24, 3) := by decide +kernel
theorem dX12_turnedY_8 : decode cX12_turnedY 8 = .ok (.iload_n 2, 1) := by decide +kernel
theorem dX12_turnedY_9 : decode cX12_turnedY 9 = .ok (.iconst 1, 1) := by decide +kernel
theorem dX12_turnedY_10 : decode cX12_turnedY 10 = .ok (.if_icmp .ne 8, 3) := by decide +kernel
theorem dX12_turnedY_13 : decode cX12_turnedY 13 = .ok (.iload_n 0, 1) := by decide +kernel
theorem dX12_turnedY_14 : decode cX12_turnedY 14 = .ok (.ineg, 1) := by decide +kernel
theorem dX12_turnedY_15 : decode cX12_turnedY 15 = .ok (.goto 14, 3) := by decide +kernel
theorem dX12_turnedY_18 : decode cX12_turnedY 18 = .ok (.iload_n 2, 1) := by decide +kernel
theorem dX12_turnedY_19 : decode cX12_turnedY 19 = .ok (.iconst 2, 1) := by decide +kernel
theorem dX12_turnedY_20 : decode cX12_turnedY 20 = .ok (.if_icmp .ne 8, 3) := by decide +kernel
theorem dX12_turnedY_23 : decode cX12_turnedY 23 = .ok (.iload_n 1, 1) := by decide +kernel
theorem dX12_turnedY_24 : decode cX12_turnedY 24 = .ok (.ineg, 1) := by decide +kernel
theorem dX12_turnedY_25 : decode cX12_turnedY 25 = .ok (.goto 4, 3) := by decide +kernel
theorem dX12_turnedY_28 : decode cX12_turnedY 28 = .ok (.iload_n 0, 1) := by decide +kernel
theorem dX12_turnedY_29 : decode cX12_turnedY 29 = .ok (.ireturn, 1) := by decide +kernel
abbrev rm_f_X12_turnedY : Room := { frames := 0, cells := 0, slots := 0, locals := 0 }
def f_X12_turnedY (N : Nat) (a0 : Int) (a1 : Int) (a2 : Int) (t : St) : Option (Int × St) :=
    cmpI a2 0 (if a2 = 0 then (some (a1, t))
    else (cmpI a2 1 (if a2 = 1 then (some (-a0, t))
    else (cmpI a2 2 (if a2 = 2 then (some (-a1, t))
    else (some (a0, t)))))))
set_option maxHeartbeats 4000000 in
set_option maxRecDepth 100000 in
theorem b_f_X12_turnedY {p : Program} {l : Launch} {e : Env} {s : State} {m : MethodId} {args : Array Value} {below : List Frame} {meth : Method} {c : Code} {E : cE} {A : Nat → Prop} {r : Nat → Nat} {mc ms : Nat} {z : Int × St} {N : Nat} {a0 : Int} {a1 : Int} {a2 : Int} {t : St} (X : gX p s m meth c cX12_turnedY 3 (some .int) yX12_turnedY args E A) (h : f_X12_turnedY N a0 a1 a2 t = some z) : gP p l e rm_f_X12_turnedY s m args below meth c E A 3 (MQ below ((gqI E (gW E r shM) z) A) args s mc ms A) (gW E r shM) 0 [(0, iv a0), (1, iv a1), (2, iv a2)] [] t := by
  unfold f_X12_turnedY at h
  refine g_iload_n X dX12_turnedY_0 2 rfl ?_
  refine g_if_ne (tgt := 8) X dX12_turnedY_1 (by decide) h (fun h => ?_) (fun h => ?_)
  · refine g_iload_n X dX12_turnedY_8 2 rfl ?_
    refine g_iconst X dX12_turnedY_9 ?_
    refine g_icmp_ne (tgt := 18) X dX12_turnedY_10 (by decide) h (fun h => ?_) (fun h => ?_)
    · refine g_iload_n X dX12_turnedY_18 2 rfl ?_
      refine g_iconst X dX12_turnedY_19 ?_
      refine g_icmp_ne (tgt := 28) X dX12_turnedY_20 (by decide) h (fun h => ?_) (fun h => ?_)
      · refine g_iload_n X dX12_turnedY_28 0 rfl ?_
        exact g_iret X h dX12_turnedY_29
      · refine g_iload_n X dX12_turnedY_23 1 rfl ?_
        refine g_ineg X dX12_turnedY_24 ?_
        refine g_goto (tgt := 29) X dX12_turnedY_25 (by decide) ?_
        exact g_iret X h dX12_turnedY_29
    · refine g_iload_n X dX12_turnedY_13 0 rfl ?_
      refine g_ineg X dX12_turnedY_14 ?_
      refine g_goto (tgt := 29) X dX12_turnedY_15 (by decide) ?_
      exact g_iret X h dX12_turnedY_29
  · refine g_iload_n X dX12_turnedY_4 1 rfl ?_
    refine g_goto (tgt := 29) X dX12_turnedY_5 (by decide) ?_
    exact g_iret X h dX12_turnedY_29
set_option maxHeartbeats 4000000 in
set_option maxRecDepth 100000 in
theorem cp_X12_turnedY (l : Launch) (E : cE) (r : Nat → Nat) (N : Nat) (a0 : Int) (a1 : Int) (a2 : Int) (t : St) (z : Int × St) (h : f_X12_turnedY N a0 a1 a2 t = some z) : cM l E yX12_turnedY cX12_turnedY 3 (some .int) rm_f_X12_turnedY [iv a0, iv a1, iv a2] (gW E r shM t) (gqI E (gW E r shM) z) := by
  refine g_of (w := gW E r shM) (by decide) (Nat.le_of_ble_eq_true rfl) ?_
  intro p e s m below meth c A X
  exact g_sub (lv' := [(0, iv a0), (1, iv a1), (2, iv a2)]) [0, 1, 2] rfl (b_f_X12_turnedY X h)
theorem yy_X12_turnedY : cY yX12_turnedY cX12_turnedY 3 (some .int) 3 := ⟨wdK_X12_turnedY, wdZ_RX12, by decide +kernel⟩
theorem dX12_whoAt_0 : decode cX12_whoAt 0 = .ok (.iconst 0, 1) := by decide +kernel
theorem dX12_whoAt_1 : decode cX12_whoAt 1 = .ok (.istore_n 3, 1) := by decide +kernel
theorem dX12_whoAt_2 : decode cX12_whoAt 2 = .ok (.iload_n 3, 1) := by decide +kernel
theorem dX12_whoAt_3 : decode cX12_whoAt 3 = .ok (.aload_n 0, 1) := by decide +kernel
theorem dX12_whoAt_4 : decode cX12_whoAt 4 = .ok (.getfield 231, 3) := by decide +kernel
theorem dX12_whoAt_7 : decode cX12_whoAt 7 = .ok (.if_icmp .ge 31, 3) := by decide +kernel
theorem dX12_whoAt_10 : decode cX12_whoAt 10 = .ok (.aload_n 0, 1) := by decide +kernel
theorem dX12_whoAt_11 : decode cX12_whoAt 11 = .ok (.getfield 71, 3) := by decide +kernel
theorem dX12_whoAt_14 : decode cX12_whoAt 14 = .ok (.iload_n 3, 1) := by decide +kernel
theorem dX12_whoAt_15 : decode cX12_whoAt 15 = .ok (.iaload, 1) := by decide +kernel
theorem dX12_whoAt_16 : decode cX12_whoAt 16 = .ok (.iload_n 1, 1) := by decide +kernel
theorem dX12_whoAt_17 : decode cX12_whoAt 17 = .ok (.if_icmp .ne 15, 3) := by decide +kernel
theorem dX12_whoAt_20 : decode cX12_whoAt 20 = .ok (.aload_n 0, 1) := by decide +kernel
theorem dX12_whoAt_21 : decode cX12_whoAt 21 = .ok (.getfield 74, 3) := by decide +kernel
theorem dX12_whoAt_24 : decode cX12_whoAt 24 = .ok (.iload_n 3, 1) := by decide +kernel
theorem dX12_whoAt_25 : decode cX12_whoAt 25 = .ok (.iaload, 1) := by decide +kernel
theorem dX12_whoAt_26 : decode cX12_whoAt 26 = .ok (.iload_n 2, 1) := by decide +kernel
theorem dX12_whoAt_27 : decode cX12_whoAt 27 = .ok (.if_icmp .ne 5, 3) := by decide +kernel
theorem dX12_whoAt_30 : decode cX12_whoAt 30 = .ok (.iload_n 3, 1) := by decide +kernel
theorem dX12_whoAt_31 : decode cX12_whoAt 31 = .ok (.ireturn, 1) := by decide +kernel
theorem dX12_whoAt_32 : decode cX12_whoAt 32 = .ok (.iinc 3 1, 3) := by decide +kernel
theorem dX12_whoAt_35 : decode cX12_whoAt 35 = .ok (.goto (-33), 3) := by decide +kernel
theorem dX12_whoAt_38 : decode cX12_whoAt 38 = .ok (.iconst (-1), 1) := by decide +kernel
theorem dX12_whoAt_39 : decode cX12_whoAt 39 = .ok (.ireturn, 1) := by decide +kernel
abbrev rm_f_X12_whoAt : Room := { frames := 0, cells := 0, slots := 0, locals := 0 }
def f_X12_whoAt_L2 (K5 : (St → Option (Int × St))) (y1 : Int) (y2 : Int) : Nat → Int → St → Option (Int × St)
  | 0, _, _ => none
  | n9 + 1, x3, t4 =>
    lt1 (t4.1 200 37) fun v6 =>
    cmpI x3 v6 (if x3 < v6 then (ixI x3 64 (lt1 (t4.1 38 x3.toNat) fun v7 =>
    jn1 (fun (t8 : St) => f_X12_whoAt_L2 K5 y1 y2 n9 (x3 + 1) t8) fun J9 =>
    cmpI v7 y1 (if v7 = y1 then (ixI x3 64 (lt1 (t4.1 39 x3.toNat) fun v10 =>
    cmpI v10 y2 (if v10 = y2 then (some (x3, t4))
    else (J9 t4))))
    else (J9 t4))))
    else (K5 t4))
def f_X12_whoAt (N : Nat) (a0 : Int) (a1 : Int) (t : St) : Option (Int × St) :=
    f_X12_whoAt_L2 (fun (t11 : St) => some ((-1), t11)) a0 a1 N 0 t
set_option maxHeartbeats 4000000 in
set_option maxRecDepth 100000 in
theorem t_f_X12_whoAt_L2 {p : Program} {l : Launch} {e : Env} {s : State} {m : MethodId} {args : Array Value} {below : List Frame} {meth : Method} {c : Code} {E : cE} {A : Nat → Prop} {r : Nat → Nat} {mc ms : Nat} {z : Int × St} {K5 : (St → Option (Int × St))} {y1 : Int} {y2 : Int} (X : gX p s m meth c cX12_whoAt 4 (some .int) yX12_whoAt args E A) (hK5 : ∀ (t9 : St), K5 t9 = some z → gP p l e rm_f_X12_whoAt s m args below meth c E A 4 (MQ below ((gqI E (gW E r shM) z) A) args s mc ms A) (gW E r shM) 38 [] [] t9) : ∀ (n9 : Nat) (x3 : Int) (t4 : St), f_X12_whoAt_L2 K5 y1 y2 n9 x3 t4 = some z → gP p l e rm_f_X12_whoAt s m args below meth c E A 4 (MQ below ((gqI E (gW E r shM) z) A) args s mc ms A) (gW E r shM) 2 [(0, .ref (r 200)), (1, iv y1), (2, iv y2), (3, iv x3)] [] t4 := by
  intro n9
  induction n9 with
  | zero => intro x3 t4 h; cases h
  | succ n9 ih =>
    intro x3 t4 h
    unfold f_X12_whoAt_L2 at h
    refine g_iload_n X dX12_whoAt_2 3 rfl ?_
    refine g_aload_n X dX12_whoAt_3 0 rfl ?_
    refine g_getI X fM_37 rfl dX12_whoAt_4 h (fun v6 h => ?_)
    refine g_icmp_ge (tgt := 38) X dX12_whoAt_7 (by decide) h (fun h => ?_) (fun h => ?_)
    · exact g_sub (lv' := []) [] rfl (hK5 t4 h)
    · refine g_aload_n X dX12_whoAt_10 0 rfl ?_
      refine g_getR X fM_38 rfl dX12_whoAt_11 ?_
      refine g_iload_n X dX12_whoAt_14 3 rfl ?_
      refine g_iald X aM_38 dX12_whoAt_15 h (fun v7 h => ?_)
      refine g_iload_n X dX12_whoAt_16 1 rfl ?_
      refine g_join (J := fun jj => ∀ (t8 : St), jj  t8 = some z → gP p l e rm_f_X12_whoAt s m args below meth c E A 4 (MQ below ((gqI E (gW E r shM) z) A) args s mc ms A) (gW E r shM) 32 [(0, .ref (r 200)), (1, iv y1), (2, iv y2), (3, iv x3)] [] t8) h (fun  t8 h => ?_) (fun J9 hJ9 h => ?_)
      · refine g_iinc (lv' := [(3, iv (x3 + 1)), (0, .ref (r 200)), (1, iv y1), (2, iv y2)]) X dX12_whoAt_32 (k := 3) rfl (by decide) rfl ?_
        refine g_goto (tgt := 2) X dX12_whoAt_35 (by decide) ?_
        exact g_sub (lv' := [(0, .ref (r 200)), (1, iv y1), (2, iv y2), (3, iv (x3 + 1))]) [1, 2, 3, 0] rfl (ih (x3 + 1) t8 h)
      refine g_icmp_ne (tgt := 32) X dX12_whoAt_17 (by decide) h (fun h => ?_) (fun h => ?_)
      · exact g_sub (lv' := [(0, .ref (r 200)), (1, iv y1), (2, iv y2), (3, iv x3)]) [0, 1, 2, 3] rfl (hJ9 t4 h)
      · refine g_aload_n X dX12_whoAt_20 0 rfl ?_
        refine g_getR X fM_39 rfl dX12_whoAt_21 ?_
        refine g_iload_n X dX12_whoAt_24 3 rfl ?_
        refine g_iald X aM_39 dX12_whoAt_25 h (fun v10 h => ?_)
        refine g_iload_n X dX12_whoAt_26 2 rfl ?_
        refine g_icmp_ne (tgt := 32) X dX12_whoAt_27 (by decide) h (fun h => ?_) (fun h => ?_)
        · exact g_sub (lv' := [(0, .ref (r 200)), (1, iv y1), (2, iv y2), (3, iv x3)]) [0, 1, 2, 3] rfl (hJ9 t4 h)
        · refine g_iload_n X dX12_whoAt_30 3 rfl ?_
          exact g_iret X h dX12_whoAt_31
set_option maxHeartbeats 4000000 in
set_option maxRecDepth 100000 in
theorem b_f_X12_whoAt {p : Program} {l : Launch} {e : Env} {s : State} {m : MethodId} {args : Array Value} {below : List Frame} {meth : Method} {c : Code} {E : cE} {A : Nat → Prop} {r : Nat → Nat} {mc ms : Nat} {z : Int × St} {N : Nat} {a0 : Int} {a1 : Int} {t : St} (X : gX p s m meth c cX12_whoAt 4 (some .int) yX12_whoAt args E A) (h : f_X12_whoAt N a0 a1 t = some z) : gP p l e rm_f_X12_whoAt s m args below meth c E A 4 (MQ below ((gqI E (gW E r shM) z) A) args s mc ms A) (gW E r shM) 0 [(0, .ref (r 200)), (1, iv a0), (2, iv a1)] [] t := by
  unfold f_X12_whoAt at h
  refine g_iconst X dX12_whoAt_0 ?_
  refine g_istore_n (lv' := [(3, iv 0), (0, .ref (r 200)), (1, iv a0), (2, iv a1)]) X dX12_whoAt_1 rfl (by decide) rfl ?_
  refine g_sub (lv' := [(0, .ref (r 200)), (1, iv a0), (2, iv a1), (3, iv 0)]) [1, 2, 3, 0] rfl (t_f_X12_whoAt_L2 X (fun t11 h => ?_) N 0 t h)
  · refine g_iconst X dX12_whoAt_38 ?_
    exact g_iret X h dX12_whoAt_39
set_option maxHeartbeats 4000000 in
set_option maxRecDepth 100000 in
theorem cp_X12_whoAt (l : Launch) (E : cE) (r : Nat → Nat) (N : Nat) (a0 : Int) (a1 : Int) (t : St) (z : Int × St) (h : f_X12_whoAt N a0 a1 t = some z) : cM l E yX12_whoAt cX12_whoAt 4 (some .int) rm_f_X12_whoAt [.ref (r 200), iv a0, iv a1] (gW E r shM t) (gqI E (gW E r shM) z) := by
  refine g_of (w := gW E r shM) (by decide) (Nat.le_of_ble_eq_true rfl) ?_
  intro p e s m below meth c A X
  exact g_sub (lv' := [(0, .ref (r 200)), (1, iv a0), (2, iv a1)]) [0, 1, 2] rfl (b_f_X12_whoAt X h)
theorem yy_X12_whoAt : cY yX12_whoAt cX12_whoAt 4 (some .int) 2 := ⟨wdK_X12_whoAt, wdZ_RX12, by decide +kernel⟩
theorem yi_X12_whoAt : cYi yX12_whoAt := ⟨wdN_X12_whoAt, wdS_X12_whoAt⟩
theorem dX12_fits_0 : decode cX12_fits 0 = .ok (.bipush 8, 2) := by decide +kernel
theorem dX12_fits_2 : decode cX12_fits 2 = .ok (.iload_n 1, 1) := by decide +kernel
theorem dX12_fits_3 : decode cX12_fits 3 = .ok (.imul, 1) := by decide +kernel
theorem dX12_fits_4 : decode cX12_fits 4 = .ok (.iload_n 3, 1) := by decide +kernel
theorem dX12_fits_5 : decode cX12_fits 5 = .ok (.iconst 4, 1) := by decide +kernel
theorem dX12_fits_6 : decode cX12_fits 6 = .ok (.idiv, 1) := by decide +kernel
theorem dX12_fits_7 : decode cX12_fits 7 = .ok (.iadd, 1) := by decide +kernel
theorem dX12_fits_8 : decode cX12_fits 8 = .ok (.istore 6, 2) := by decide +kernel
theorem dX12_fits_10 : decode cX12_fits 10 = .ok (.iload_n 3, 1) := by decide +kernel
theorem dX12_fits_11 : decode cX12_fits 11 = .ok (.iconst 4, 1) := by decide +kernel
theorem dX12_fits_12 : decode cX12_fits 12 = .ok (.irem, 1) := by decide +kernel
theorem dX12_fits_13 : decode cX12_fits 13 = .ok (.istore 7, 2) := by decide +kernel
theorem dX12_fits_15 : decode cX12_fits 15 = .ok (.aload_n 0, 1) := by decide +kernel
theorem dX12_fits_16 : decode cX12_fits 16 = .ok (.getfield 71, 3) := by decide +kernel
theorem dX12_fits_19 : decode cX12_fits 19 = .ok (.iload_n 2, 1) := by decide +kernel
theorem dX12_fits_20 : decode cX12_fits 20 = .ok (.iaload, 1) := by decide +kernel
theorem dX12_fits_21 : decode cX12_fits 21 = .ok (.aload_n 0, 1) := by decide +kernel
theorem dX12_fits_22 : decode cX12_fits 22 = .ok (.getfield 29, 3) := by decide +kernel
theorem dX12_fits_25 : decode cX12_fits 25 = .ok (.iload 6, 2) := by decide +kernel
theorem dX12_fits_27 : decode cX12_fits 27 = .ok (.iaload, 1) := by decide +kernel
theorem dX12_fits_28 : decode cX12_fits 28 = .ok (.aload_n 0, 1) := by decide +kernel
theorem dX12_fits_29 : decode cX12_fits 29 = .ok (.getfield 32, 3) := by decide +kernel
theorem dX12_fits_32 : decode cX12_fits 32 = .ok (.iload 6, 2) := by decide +kernel
theorem dX12_fits_34 : decode cX12_fits 34 = .ok (.iaload, 1) := by decide +kernel
theorem dX12_fits_35 : decode cX12_fits 35 = .ok (.iload 7, 2) := by decide +kernel
theorem dX12_fits_37 : decode cX12_fits 37 = .ok (.invokestatic 470, 3) := by decide +kernel
theorem dX12_fits_40 : decode cX12_fits 40 = .ok (.isub, 1) := by decide +kernel
theorem dX12_fits_41 : decode cX12_fits 41 = .ok (.istore 8, 2) := by decide +kernel
theorem dX12_fits_43 : decode cX12_fits 43 = .ok (.aload_n 0, 1) := by decide +kernel
theorem dX12_fits_44 : decode cX12_fits 44 = .ok (.getfield 74, 3) := by decide +kernel
theorem dX12_fits_47 : decode cX12_fits 47 = .ok (.iload_n 2, 1) := by decide +kernel
theorem dX12_fits_48 : decode cX12_fits 48 = .ok (.iaload, 1) := by decide +kernel
theorem dX12_fits_49 : decode cX12_fits 49 = .ok (.aload_n 0, 1) := by decide +kernel
theorem dX12_fits_50 : decode cX12_fits 50 = .ok (.getfield 29, 3) := by decide +kernel
theorem dX12_fits_53 : decode cX12_fits 53 = .ok (.iload 6, 2) := by decide +kernel
theorem dX12_fits_55 : decode cX12_fits 55 = .ok (.iaload, 1) := by decide +kernel
theorem dX12_fits_56 : decode cX12_fits 56 = .ok (.aload_n 0, 1) := by decide +kernel
theorem dX12_fits_57 : decode cX12_fits 57 = .ok (.getfield 32, 3) := by decide +kernel
theorem dX12_fits_60 : decode cX12_fits 60 = .ok (.iload 6, 2) := by decide +kernel
theorem dX12_fits_62 : decode cX12_fits 62 = .ok (.iaload, 1) := by decide +kernel
theorem dX12_fits_63 : decode cX12_fits 63 = .ok (.iload 7, 2) := by decide +kernel
theorem dX12_fits_65 : decode cX12_fits 65 = .ok (.invokestatic 474, 3) := by decide +kernel
theorem dX12_fits_68 : decode cX12_fits 68 = .ok (.isub, 1) := by decide +kernel
theorem dX12_fits_69 : decode cX12_fits 69 = .ok (.istore 9, 2) := by decide +kernel
theorem dX12_fits_71 : decode cX12_fits 71 = .ok (.iconst 0, 1) := by decide +kernel
theorem dX12_fits_72 : decode cX12_fits 72 = .ok (.istore 10, 2) := by decide +kernel
theorem dX12_fits_74 : decode cX12_fits 74 = .ok (.iload 10, 2) := by decide +kernel
theorem dX12_fits_76 : decode cX12_fits 76 = .ok (.aload_n 0, 1) := by decide +kernel
theorem dX12_fits_77 : decode cX12_fits 77 = .ok (.getfield 26, 3) := by decide +kernel
theorem dX12_fits_80 : decode cX12_fits 80 = .ok (.iload_n 1, 1) := by decide +kernel
theorem dX12_fits_81 : decode cX12_fits 81 = .ok (.iaload, 1) := by decide +kernel
theorem dX12_fits_82 : decode cX12_fits 82 = .ok (.if_icmp .ge 159, 3) := by decide +kernel
theorem dX12_fits_85 : decode cX12_fits 85 = .ok (.bipush 8, 2) := by decide +kernel
theorem dX12_fits_87 : decode cX12_fits 87 = .ok (.iload_n 1, 1) := by decide +kernel
theorem dX12_fits_88 : decode cX12_fits 88 = .ok (.imul, 1) := by decide +kernel
theorem dX12_fits_89 : decode cX12_fits 89 = .ok (.iload 10, 2) := by decide +kernel
theorem dX12_fits_91 : decode cX12_fits 91 = .ok (.iadd, 1) := by decide +kernel
theorem dX12_fits_92 : decode cX12_fits 92 = .ok (.istore 11, 2) := by decide +kernel
theorem dX12_fits_94 : decode cX12_fits 94 = .ok (.aload_n 0, 1) := by decide +kernel
theorem dX12_fits_95 : decode cX12_fits 95 = .ok (.iload 8, 2) := by decide +kernel
theorem dX12_fits_97 : decode cX12_fits 97 = .ok (.aload_n 0, 1) := by decide +kernel
theorem dX12_fits_98 : decode cX12_fits 98 = .ok (.getfield 29, 3) := by decide +kernel
theorem dX12_fits_101 : decode cX12_fits 101 = .ok (.iload 11, 2) := by decide +kernel
theorem dX12_fits_103 : decode cX12_fits 103 = .ok (.iaload, 1) := by decide +kernel
theorem dX12_fits_104 : decode cX12_fits 104 = .ok (.aload_n 0, 1) := by decide +kernel
theorem dX12_fits_105 : decode cX12_fits 105 = .ok (.getfield 32, 3) := by decide +kernel
theorem dX12_fits_108 : decode cX12_fits 108 = .ok (.iload 11, 2) := by decide +kernel
theorem dX12_fits_110 : decode cX12_fits 110 = .ok (.iaload, 1) := by decide +kernel
theorem dX12_fits_111 : decode cX12_fits 111 = .ok (.iload 7, 2) := by decide +kernel
theorem dX12_fits_113 : decode cX12_fits 113 = .ok (.invokestatic 470, 3) := by decide +kernel
theorem dX12_fits_116 : decode cX12_fits 116 = .ok (.iadd, 1) := by decide +kernel
theorem dX12_fits_117 : decode cX12_fits 117 = .ok (.iload 9, 2) := by decide +kernel
theorem dX12_fits_119 : decode cX12_fits 119 = .ok (.aload_n 0, 1) := by decide +kernel
theorem dX12_fits_120 : decode cX12_fits 120 = .ok (.getfield 29, 3) := by decide +kernel
theorem dX12_fits_123 : decode cX12_fits 123 = .ok (.iload 11, 2) := by decide +kernel
theorem dX12_fits_125 : decode cX12_fits 125 = .ok (.iaload, 1) := by decide +kernel
theorem dX12_fits_126 : decode cX12_fits 126 = .ok (.aload_n 0, 1) := by decide +kernel
theorem dX12_fits_127 : decode cX12_fits 127 = .ok (.getfield 32, 3) := by decide +kernel
theorem dX12_fits_130 : decode cX12_fits 130 = .ok (.iload 11, 2) := by decide +kernel
theorem dX12_fits_132 : decode cX12_fits 132 = .ok (.iaload, 1) := by decide +kernel
theorem dX12_fits_133 : decode cX12_fits 133 = .ok (.iload 7, 2) := by decide +kernel
theorem dX12_fits_135 : decode cX12_fits 135 = .ok (.invokestatic 474, 3) := by decide +kernel
theorem dX12_fits_138 : decode cX12_fits 138 = .ok (.iadd, 1) := by decide +kernel
theorem dX12_fits_139 : decode cX12_fits 139 = .ok (.invokevirtual 477, 3) := by decide +kernel
theorem dX12_fits_142 : decode cX12_fits 142 = .ok (.istore 12, 2) := by decide +kernel
theorem dX12_fits_144 : decode cX12_fits 144 = .ok (.iload 12, 2) := by decide +kernel
theorem dX12_fits_146 : decode cX12_fits 146 = .ok (.iconst (-1), 1) := by decide +kernel
theorem dX12_fits_147 : decode cX12_fits 147 = .ok (.if_icmp .eq 13, 3) := by decide +kernel
theorem dX12_fits_150 : decode cX12_fits 150 = .ok (.lload 4, 2) := by decide +kernel
theorem dX12_fits_152 : decode cX12_fits 152 = .ok (.iload 12, 2) := by decide +kernel
theorem dX12_fits_154 : decode cX12_fits 154 = .ok (.invokestatic 446, 3) := by decide +kernel
theorem dX12_fits_157 : decode cX12_fits 157 = .ok (.ifCond .ne 5, 3) := by decide +kernel
theorem dX12_fits_160 : decode cX12_fits 160 = .ok (.iconst 0, 1) := by decide +kernel
theorem dX12_fits_161 : decode cX12_fits 161 = .ok (.ireturn, 1) := by decide +kernel
theorem dX12_fits_162 : decode cX12_fits 162 = .ok (.aload_n 0, 1) := by decide +kernel
theorem dX12_fits_163 : decode cX12_fits 163 = .ok (.getfield 35, 3) := by decide +kernel
theorem dX12_fits_166 : decode cX12_fits 166 = .ok (.iload 11, 2) := by decide +kernel
theorem dX12_fits_168 : decode cX12_fits 168 = .ok (.iaload, 1) := by decide +kernel
theorem dX12_fits_169 : decode cX12_fits 169 = .ok (.iconst 4, 1) := by decide +kernel
theorem dX12_fits_170 : decode cX12_fits 170 = .ok (.if_icmp .ge 28, 3) := by decide +kernel
theorem dX12_fits_173 : decode cX12_fits 173 = .ok (.aload_n 0, 1) := by decide +kernel
theorem dX12_fits_174 : decode cX12_fits 174 = .ok (.getfield 77, 3) := by decide +kernel
theorem dX12_fits_177 : decode cX12_fits 177 = .ok (.iload 12, 2) := by decide +kernel
theorem dX12_fits_179 : decode cX12_fits 179 = .ok (.iaload, 1) := by decide +kernel
theorem dX12_fits_180 : decode cX12_fits 180 = .ok (.aload_n 0, 1) := by decide +kernel
theorem dX12_fits_181 : decode cX12_fits 181 = .ok (.getfield 35, 3) := by decide +kernel
theorem dX12_fits_184 : decode cX12_fits 184 = .ok (.iload 11, 2) := by decide +kernel
theorem dX12_fits_186 : decode cX12_fits 186 = .ok (.iaload, 1) := by decide +kernel
theorem dX12_fits_187 : decode cX12_fits 187 = .ok (.iload 7, 2) := by decide +kernel
theorem dX12_fits_189 : decode cX12_fits 189 = .ok (.iadd, 1) := by decide +kernel
theorem dX12_fits_190 : decode cX12_fits 190 = .ok (.invokestatic 481, 3) := by decide +kernel
theorem dX12_fits_193 : decode cX12_fits 193 = .ok (.if_icmp .eq 5, 3) := by decide +kernel
theorem dX12_fits_196 : decode cX12_fits 196 = .ok (.iconst 0, 1) := by decide +kernel
theorem dX12_fits_197 : decode cX12_fits 197 = .ok (.ireturn, 1) := by decide +kernel
theorem dX12_fits_198 : decode cX12_fits 198 = .ok (.aload_n 0, 1) := by decide +kernel
theorem dX12_fits_199 : decode cX12_fits 199 = .ok (.getfield 38, 3) := by decide +kernel
theorem dX12_fits_202 : decode cX12_fits 202 = .ok (.iload 11, 2) := by decide +kernel
theorem dX12_fits_204 : decode cX12_fits 204 = .ok (.iaload, 1) := by decide +kernel
theorem dX12_fits_205 : decode cX12_fits 205 = .ok (.ifCond .le 21, 3) := by decide +kernel
theorem dX12_fits_208 : decode cX12_fits 208 = .ok (.iload 12, 2) := by decide +kernel
theorem dX12_fits_210 : decode cX12_fits 210 = .ok (.iconst 2, 1) := by decide +kernel
theorem dX12_fits_211 : decode cX12_fits 211 = .ok (.irem, 1) := by decide +kernel
theorem dX12_fits_212 : decode cX12_fits 212 = .ok (.aload_n 0, 1) := by decide +kernel
theorem dX12_fits_213 : decode cX12_fits 213 = .ok (.getfield 38, 3) := by decide +kernel
theorem dX12_fits_216 : decode cX12_fits 216 = .ok (.iload 11, 2) := by decide +kernel
theorem dX12_fits_218 : decode cX12_fits 218 = .ok (.iaload, 1) := by decide +kernel
theorem dX12_fits_219 : decode cX12_fits 219 = .ok (.iconst 1, 1) := by decide +kernel
theorem dX12_fits_220 : decode cX12_fits 220 = .ok (.isub, 1) := by decide +kernel
theorem dX12_fits_221 : decode cX12_fits 221 = .ok (.if_icmp .eq 5, 3) := by decide +kernel
theorem dX12_fits_224 : decode cX12_fits 224 = .ok (.iconst 0, 1) := by decide +kernel
theorem dX12_fits_225 : decode cX12_fits 225 = .ok (.ireturn, 1) := by decide +kernel
theorem dX12_fits_226 : decode cX12_fits 226 = .ok (.aload_n 0, 1) := by decide +kernel
theorem dX12_fits_227 : decode cX12_fits 227 = .ok (.getfield 165, 3) := by decide +kernel
theorem dX12_fits_230 : decode cX12_fits 230 = .ok (.iload 10, 2) := by decide +kernel
theorem dX12_fits_232 : decode cX12_fits 232 = .ok (.iload 12, 2) := by decide +kernel
theorem dX12_fits_234 : decode cX12_fits 234 = .ok (.iastore, 1) := by decide +kernel
theorem dX12_fits_235 : decode cX12_fits 235 = .ok (.iinc 10 1, 3) := by decide +kernel
theorem dX12_fits_238 : decode cX12_fits 238 = .ok (.goto (-164), 3) := by decide +kernel
theorem dX12_fits_241 : decode cX12_fits 241 = .ok (.aload_n 0, 1) := by decide +kernel
theorem dX12_fits_242 : decode cX12_fits 242 = .ok (.iload 8, 2) := by decide +kernel
theorem dX12_fits_244 : decode cX12_fits 244 = .ok (.putfield 484, 3) := by decide +kernel
theorem dX12_fits_247 : decode cX12_fits 247 = .ok (.aload_n 0, 1) := by decide +kernel
theorem dX12_fits_248 : decode cX12_fits 248 = .ok (.iload 9, 2) := by decide +kernel
theorem dX12_fits_250 : decode cX12_fits 250 = .ok (.putfield 487, 3) := by decide +kernel
theorem dX12_fits_253 : decode cX12_fits 253 = .ok (.aload_n 0, 1) := by decide +kernel
theorem dX12_fits_254 : decode cX12_fits 254 = .ok (.iload 7, 2) := by decide +kernel
theorem dX12_fits_256 : decode cX12_fits 256 = .ok (.putfield 490, 3) := by decide +kernel
theorem dX12_fits_259 : decode cX12_fits 259 = .ok (.iconst 1, 1) := by decide +kernel
theorem dX12_fits_260 : decode cX12_fits 260 = .ok (.ireturn, 1) := by decide +kernel
abbrev rm_f_X12_fits : Room := { frames := 1, cells := 0, slots := 0, locals := 23 }
def f_X12_fits_L74 (N : Nat) (K18 : (St → Option (Int × St))) (y11 : Int) (y12 : Int64) (y13 : Int) (y14 : Int) (y15 : Int) : Nat → Int → St → Option (Int × St)
  | 0, _, _ => none
  | n9 + 1, x16, t17 =>
    ixI y11 40 (lt1 (t17.1 18 y11.toNat) fun v19 =>
    cmpI x16 v19 (if x16 < v19 then (ixI ((8 * y11) + x16) 320 (lt1 (t17.1 19 ((8 * y11) + x16).toNat) fun v20 =>
    ixI ((8 * y11) + x16) 320 (lt1 (t17.1 20 ((8 * y11) + x16).toNat) fun v21 =>
    bdI (f_X12_turnedX N v20 v21 y13 t17) fun v23 t22 =>
    ixI ((8 * y11) + x16) 320 (lt1 (t22.1 19 ((8 * y11) + x16).toNat) fun v24 =>
    ixI ((8 * y11) + x16) 320 (lt1 (t22.1 20 ((8 * y11) + x16).toNat) fun v25 =>
    bdI (f_X12_turnedY N v24 v25 y13 t22) fun v27 t26 =>
    bdI (f_X12_whoAt N (y14 + v23) (y15 + v27) t26) fun v29 t28 =>
    cmpI v29 (-1) (if v29 = (-1) then (boI 0 (some (0, t28)))
    else (bdI (f_X12_has N y12 v29 t28) fun v31 t30 =>
    cmpI v31 0 (if v31 = 0 then (boI 0 (some (0, t30)))
    else (ixI ((8 * y11) + x16) 320 (lt1 (t30.1 21 ((8 * y11) + x16).toNat) fun v32 =>
    jn1 (fun (t33 : St) => ixI ((8 * y11) + x16) 320 (lt1 (t33.1 22 ((8 * y11) + x16).toNat) fun v35 =>
    jn1 (fun (t36 : St) => ixI x16 8 (lt1 (pI t36 81 x16.toNat v29) fun t38 =>
    f_X12_fits_L74 N K18 y11 y12 y13 y14 y15 n9 (x16 + 1) t38)) fun J37 =>
    cmpI v35 0 (if 0 < v35 then (dvI v29 2 (
    ixI ((8 * y11) + x16) 320 (lt1 (t33.1 22 ((8 * y11) + x16).toNat) fun v39 =>
    cmpI (v29 % 2) (v39 - 1) (if (v29 % 2) = (v39 - 1) then (J37 t33)
    else (boI 0 (some (0, t33)))))))
    else (J37 t33)))) fun J34 =>
    cmpI v32 4 (if v32 < 4 then (ixI v29 64 (lt1 (t30.1 40 v29.toNat) fun v40 =>
    ixI ((8 * y11) + x16) 320 (lt1 (t30.1 21 ((8 * y11) + x16).toNat) fun v41 =>
    bdI (f_X12_turns N (v41 + y13) t30) fun v43 t42 =>
    cmpI v40 v43 (if v40 = v43 then (J34 t42)
    else (boI 0 (some (0, t42)))))))
    else (J34 t30))))))))))))
    else (K18 t17)))
def f_X12_fits (N : Nat) (a0 : Int) (a1 : Int) (a2 : Int) (a3 : Int64) (t : St) : Option (Int × St) :=
    dvI a2 4 (
    dvI a2 4 (
    ixI a1 64 (lt1 (t.1 38 a1.toNat) fun v1 =>
    ixI ((8 * a0) + (a2 / 4)) 320 (lt1 (t.1 19 ((8 * a0) + (a2 / 4)).toNat) fun v2 =>
    ixI ((8 * a0) + (a2 / 4)) 320 (lt1 (t.1 20 ((8 * a0) + (a2 / 4)).toNat) fun v3 =>
    bdI (f_X12_turnedX N v2 v3 (a2 % 4) t) fun v5 t4 =>
    ixI a1 64 (lt1 (t4.1 39 a1.toNat) fun v6 =>
    ixI ((8 * a0) + (a2 / 4)) 320 (lt1 (t4.1 19 ((8 * a0) + (a2 / 4)).toNat) fun v7 =>
    ixI ((8 * a0) + (a2 / 4)) 320 (lt1 (t4.1 20 ((8 * a0) + (a2 / 4)).toNat) fun v8 =>
    bdI (f_X12_turnedY N v7 v8 (a2 % 4) t4) fun v10 t9 =>
    f_X12_fits_L74 N (fun (t44 : St) => lt1 (pI t44 200 82 (v1 - v5)) fun t45 =>
    lt1 (pI t45 200 83 (v6 - v10)) fun t46 =>
    lt1 (pI t46 200 84 (a2 % 4)) fun t47 =>
    boI 1 (some (1, t47))) a0 a3 (a2 % 4) (v1 - v5) (v6 - v10) N 0 t9))))))))
set_option maxHeartbeats 4000000 in
set_option maxRecDepth 100000 in
theorem t_f_X12_fits_L74 {p : Program} {l : Launch} {e : Env} {s : State} {m : MethodId} {args : Array Value} {below : List Frame} {meth : Method} {c : Code} {E : cE} {A : Nat → Prop} {r : Nat → Nat} {mc ms : Nat} {z : Int × St} {N : Nat} {K18 : (St → Option (Int × St))} {y11 : Int} {y12 : Int64} {y13 : Int} {y14 : Int} {y15 : Int} (X : gX p s m meth c cX12_fits 13 (some .boolean) yX12_fits args E A) (hK18 : ∀ (t9 : St), K18 t9 = some z → gP p l e rm_f_X12_fits s m args below meth c E A 13 (MQ below ((gqI E (gW E r shM) z) A) args s mc ms A) (gW E r shM) 241 [(0, .ref (r 200)), (7, iv y13), (8, iv y14), (9, iv y15)] [] t9) : ∀ (n9 : Nat) (x16 : Int) (t17 : St), f_X12_fits_L74 N K18 y11 y12 y13 y14 y15 n9 x16 t17 = some z → gP p l e rm_f_X12_fits s m args below meth c E A 13 (MQ below ((gqI E (gW E r shM) z) A) args s mc ms A) (gW E r shM) 74 [(0, .ref (r 200)), (1, iv y11), (4, .long y12), (7, iv y13), (8, iv y14), (9, iv y15), (10, iv x16)] [] t17 := by
  intro n9
  induction n9 with
  | zero => intro x16 t17 h; cases h
  | succ n9 ih =>
    intro x16 t17 h
    unfold f_X12_fits_L74 at h
    refine g_iload X dX12_fits_74 6 rfl ?_
    refine g_aload_n X dX12_fits_76 0 rfl ?_
    refine g_getR X fM_18 rfl dX12_fits_77 ?_
    refine g_iload_n X dX12_fits_80 1 rfl ?_
    refine g_iald X aM_18 dX12_fits_81 h (fun v19 h => ?_)
    refine g_icmp_ge (tgt := 241) X dX12_fits_82 (by decide) h (fun h => ?_) (fun h => ?_)
    · exact g_sub (lv' := [(0, .ref (r 200)), (7, iv y13), (8, iv y14), (9, iv y15)]) [0, 3, 4, 5] rfl (hK18 t17 h)
    · refine g_bipush X dX12_fits_85 (by decide) ?_
      refine g_iload_n X dX12_fits_87 1 rfl ?_
      refine g_imul X dX12_fits_88 ?_
      refine g_iload X dX12_fits_89 6 rfl ?_
      refine g_iadd X dX12_fits_91 ?_
      refine g_istore (lv' := [(11, iv ((8 * y11) + x16)), (0, .ref (r 200)), (1, iv y11), (4, .long y12), (7, iv y13), (8, iv y14), (9, iv y15), (10, iv x16)]) X dX12_fits_92 (by decide) rfl ?_
      refine g_aload_n X dX12_fits_94 1 rfl ?_
      refine g_iload X dX12_fits_95 5 rfl ?_
      refine g_aload_n X dX12_fits_97 1 rfl ?_
      refine g_getR X fM_19 rfl dX12_fits_98 ?_
      refine g_iload X dX12_fits_101 0 rfl ?_
      refine g_iald X aM_19 dX12_fits_103 h (fun v20 h => ?_)
      refine g_aload_n X dX12_fits_104 1 rfl ?_
      refine g_getR X fM_20 rfl dX12_fits_105 ?_
      refine g_iload X dX12_fits_108 0 rfl ?_
      refine g_iald X aM_20 dX12_fits_110 h (fun v21 h => ?_)
      refine g_iload X dX12_fits_111 4 rfl ?_
      refine g_callsI (rest := [iv y14, .ref (r 200)]) X (fun u9 h9 => cp_X12_turnedX l E r N v20 v21 y13 t17 u9 h9) yy_X12_turnedX wdT_X12_turnedX wdM_RX12_470 rfl rfl (Nat.le_of_ble_eq_true rfl) dX12_fits_113 ⟨by decide, by decide⟩ ⟨rfl, rfl⟩ h (fun v23 t22 h => ?_)
      refine g_iadd X dX12_fits_116 ?_
      refine g_iload X dX12_fits_117 6 rfl ?_
      refine g_aload_n X dX12_fits_119 1 rfl ?_
      refine g_getR X fM_19 rfl dX12_fits_120 ?_
      refine g_iload X dX12_fits_123 0 rfl ?_
      refine g_iald X aM_19 dX12_fits_125 h (fun v24 h => ?_)
      refine g_aload_n X dX12_fits_126 1 rfl ?_
      refine g_getR X fM_20 rfl dX12_fits_127 ?_
      refine g_iload X dX12_fits_130 0 rfl ?_
      refine g_iald X aM_20 dX12_fits_132 h (fun v25 h => ?_)
      refine g_iload X dX12_fits_133 4 rfl ?_
      refine g_callsI (rest := [iv y15, iv (y14 + v23), .ref (r 200)]) X (fun u9 h9 => cp_X12_turnedY l E r N v24 v25 y13 t22 u9 h9) yy_X12_turnedY wdT_X12_turnedY wdM_RX12_474 rfl rfl (Nat.le_of_ble_eq_true rfl) dX12_fits_135 ⟨by decide, by decide⟩ ⟨rfl, rfl⟩ h (fun v27 t26 h => ?_)
      refine g_iadd X dX12_fits_138 ?_
      refine g_callI (rest := []) X (fun u9 h9 => cp_X12_whoAt l E r N (y14 + v23) (y15 + v27) t26 u9 h9) yy_X12_whoAt yi_X12_whoAt wdM_RX12_477 0 12 (gW_at oM) rfl rfl rfl (Nat.le_of_ble_eq_true rfl) dX12_fits_139 ⟨by decide, by decide⟩ ⟨rfl, rfl⟩ h (fun v29 t28 h => ?_)
      refine g_istore (lv' := [(12, iv v29), (11, iv ((8 * y11) + x16)), (0, .ref (r 200)), (1, iv y11), (4, .long y12), (7, iv y13), (8, iv y14), (9, iv y15), (10, iv x16)]) X dX12_fits_142 (by decide) rfl ?_
      refine g_iload X dX12_fits_144 0 rfl ?_
      refine g_iconst X dX12_fits_146 ?_
      refine g_icmp_eq (tgt := 160) X dX12_fits_147 (by decide) h (fun h => ?_) (fun h => ?_)
      · refine g_iconst X dX12_fits_160 ?_
        exact g_zret X h dX12_fits_161
      · refine g_lload X dX12_fits_150 4 rfl ?_
        refine g_iload X dX12_fits_152 0 rfl ?_
        refine g_callsI (rest := []) X (fun u9 h9 => cp_X12_has l E r N y12 v29 t28 u9 h9) yy_X12_has wdT_X12_has wdM_RX12_446 rfl rfl (Nat.le_of_ble_eq_true rfl) dX12_fits_154 ⟨by decide, by decide⟩ ⟨rfl, rfl⟩ h (fun v31 t30 h => ?_)
        refine g_if_ne (tgt := 162) X dX12_fits_157 (by decide) h (fun h => ?_) (fun h => ?_)
        · refine g_aload_n X dX12_fits_162 2 rfl ?_
          refine g_getR X fM_21 rfl dX12_fits_163 ?_
          refine g_iload X dX12_fits_166 1 rfl ?_
          refine g_iald X aM_21 dX12_fits_168 h (fun v32 h => ?_)
          refine g_iconst X dX12_fits_169 ?_
          refine g_join (J := fun jj => ∀ (t33 : St), jj  t33 = some z → gP p l e rm_f_X12_fits s m args below meth c E A 13 (MQ below ((gqI E (gW E r shM) z) A) args s mc ms A) (gW E r shM) 198 [(0, .ref (r 200)), (1, iv y11), (4, .long y12), (7, iv y13), (8, iv y14), (9, iv y15), (10, iv x16), (11, iv ((8 * y11) + x16)), (12, iv v29)] [] t33) h (fun  t33 h => ?_) (fun J34 hJ34 h => ?_)
          · refine g_aload_n X dX12_fits_198 0 rfl ?_
            refine g_getR X fM_22 rfl dX12_fits_199 ?_
            refine g_iload X dX12_fits_202 7 rfl ?_
            refine g_iald X aM_22 dX12_fits_204 h (fun v35 h => ?_)
            refine g_join (J := fun jj => ∀ (t36 : St), jj  t36 = some z → gP p l e rm_f_X12_fits s m args below meth c E A 13 (MQ below ((gqI E (gW E r shM) z) A) args s mc ms A) (gW E r shM) 226 [(0, .ref (r 200)), (1, iv y11), (4, .long y12), (7, iv y13), (8, iv y14), (9, iv y15), (10, iv x16), (12, iv v29)] [] t36) h (fun  t36 h => ?_) (fun J37 hJ37 h => ?_)
            · refine g_aload_n X dX12_fits_226 0 rfl ?_
              refine g_getR X fM_81 rfl dX12_fits_227 ?_
              refine g_iload X dX12_fits_230 6 rfl ?_
              refine g_iload X dX12_fits_232 7 rfl ?_
              refine g_iast X aM_81 dX12_fits_234 h (fun t38 h => ?_)
              refine g_iinc (lv' := [(10, iv (x16 + 1)), (0, .ref (r 200)), (1, iv y11), (4, .long y12), (7, iv y13), (8, iv y14), (9, iv y15), (12, iv v29)]) X dX12_fits_235 (k := 6) rfl (by decide) rfl ?_
              refine g_goto (tgt := 74) X dX12_fits_238 (by decide) ?_
              exact g_sub (lv' := [(0, .ref (r 200)), (1, iv y11), (4, .long y12), (7, iv y13), (8, iv y14), (9, iv y15), (10, iv (x16 + 1))]) [1, 2, 3, 4, 5, 6, 0] rfl (ih (x16 + 1) t38 h)
            refine g_if_le (tgt := 226) X dX12_fits_205 (by decide) h (fun h => ?_) (fun h => ?_)
            · exact g_sub (lv' := [(0, .ref (r 200)), (1, iv y11), (4, .long y12), (7, iv y13), (8, iv y14), (9, iv y15), (10, iv x16), (12, iv v29)]) [0, 1, 2, 3, 4, 5, 6, 8] rfl (hJ37 t33 h)
            · refine g_iload X dX12_fits_208 8 rfl ?_
              refine g_iconst X dX12_fits_210 ?_
              refine g_irem X dX12_fits_211 h (fun h => ?_)
              refine g_aload_n X dX12_fits_212 0 rfl ?_
              refine g_getR X fM_22 rfl dX12_fits_213 ?_
              refine g_iload X dX12_fits_216 7 rfl ?_
              refine g_iald X aM_22 dX12_fits_218 h (fun v39 h => ?_)
              refine g_iconst X dX12_fits_219 ?_
              refine g_isub X dX12_fits_220 ?_
              refine g_icmp_eq (tgt := 226) X dX12_fits_221 (by decide) h (fun h => ?_) (fun h => ?_)
              · exact g_sub (lv' := [(0, .ref (r 200)), (1, iv y11), (4, .long y12), (7, iv y13), (8, iv y14), (9, iv y15), (10, iv x16), (12, iv v29)]) [0, 1, 2, 3, 4, 5, 6, 8] rfl (hJ37 t33 h)
              · refine g_iconst X dX12_fits_224 ?_
                exact g_zret X h dX12_fits_225
          refine g_icmp_ge (tgt := 198) X dX12_fits_170 (by decide) h (fun h => ?_) (fun h => ?_)
          · exact g_sub (lv' := [(0, .ref (r 200)), (1, iv y11), (4, .long y12), (7, iv y13), (8, iv y14), (9, iv y15), (10, iv x16), (11, iv ((8 * y11) + x16)), (12, iv v29)]) [2, 3, 4, 5, 6, 7, 8, 1, 0] rfl (hJ34 t30 h)
          · refine g_aload_n X dX12_fits_173 2 rfl ?_
            refine g_getR X fM_40 rfl dX12_fits_174 ?_
            refine g_iload X dX12_fits_177 0 rfl ?_
            refine g_iald X aM_40 dX12_fits_179 h (fun v40 h => ?_)
            refine g_aload_n X dX12_fits_180 2 rfl ?_
            refine g_getR X fM_21 rfl dX12_fits_181 ?_
            refine g_iload X dX12_fits_184 1 rfl ?_
            refine g_iald X aM_21 dX12_fits_186 h (fun v41 h => ?_)
            refine g_iload X dX12_fits_187 5 rfl ?_
            refine g_iadd X dX12_fits_189 ?_
            refine g_callsI (rest := [iv v40]) X (fun u9 h9 => cp_X12_turns l E r N (v41 + y13) t30 u9 h9) yy_X12_turns wdT_X12_turns wdM_RX12_481 rfl rfl (Nat.le_of_ble_eq_true rfl) dX12_fits_190 ⟨by decide, by decide⟩ ⟨rfl, rfl⟩ h (fun v43 t42 h => ?_)
            refine g_icmp_eq (tgt := 198) X dX12_fits_193 (by decide) h (fun h => ?_) (fun h => ?_)
            · exact g_sub (lv' := [(0, .ref (r 200)), (1, iv y11), (4, .long y12), (7, iv y13), (8, iv y14), (9, iv y15), (10, iv x16), (11, iv ((8 * y11) + x16)), (12, iv v29)]) [2, 3, 4, 5, 6, 7, 8, 1, 0] rfl (hJ34 t42 h)
            · refine g_iconst X dX12_fits_196 ?_
              exact g_zret X h dX12_fits_197
        · refine g_iconst X dX12_fits_160 ?_
          exact g_zret X h dX12_fits_161
set_option maxHeartbeats 4000000 in
set_option maxRecDepth 100000 in
theorem b_f_X12_fits {p : Program} {l : Launch} {e : Env} {s : State} {m : MethodId} {args : Array Value} {below : List Frame} {meth : Method} {c : Code} {E : cE} {A : Nat → Prop} {r : Nat → Nat} {mc ms : Nat} {z : Int × St} {N : Nat} {a0 : Int} {a1 : Int} {a2 : Int} {a3 : Int64} {t : St} (X : gX p s m meth c cX12_fits 13 (some .boolean) yX12_fits args E A) (h : f_X12_fits N a0 a1 a2 a3 t = some z) : gP p l e rm_f_X12_fits s m args below meth c E A 13 (MQ below ((gqI E (gW E r shM) z) A) args s mc ms A) (gW E r shM) 0 [(0, .ref (r 200)), (1, iv a0), (2, iv a1), (3, iv a2), (4, .long a3)] [] t := by
  unfold f_X12_fits at h
  refine g_bipush X dX12_fits_0 (by decide) ?_
  refine g_iload_n X dX12_fits_2 1 rfl ?_
  refine g_imul X dX12_fits_3 ?_
  refine g_iload_n X dX12_fits_4 3 rfl ?_
  refine g_iconst X dX12_fits_5 ?_
  refine g_idiv X dX12_fits_6 h (fun h => ?_)
  refine g_iadd X dX12_fits_7 ?_
  refine g_istore (lv' := [(6, iv ((8 * a0) + (a2 / 4))), (0, .ref (r 200)), (1, iv a0), (2, iv a1), (3, iv a2), (4, .long a3)]) X dX12_fits_8 (by decide) rfl ?_
  refine g_iload_n X dX12_fits_10 4 rfl ?_
  refine g_iconst X dX12_fits_11 ?_
  refine g_irem X dX12_fits_12 h (fun h => ?_)
  refine g_istore (lv' := [(7, iv (a2 % 4)), (6, iv ((8 * a0) + (a2 / 4))), (0, .ref (r 200)), (1, iv a0), (2, iv a1), (3, iv a2), (4, .long a3)]) X dX12_fits_13 (by decide) rfl ?_
  refine g_aload_n X dX12_fits_15 2 rfl ?_
  refine g_getR X fM_38 rfl dX12_fits_16 ?_
  refine g_iload_n X dX12_fits_19 4 rfl ?_
  refine g_iald X aM_38 dX12_fits_20 h (fun v1 h => ?_)
  refine g_aload_n X dX12_fits_21 2 rfl ?_
  refine g_getR X fM_19 rfl dX12_fits_22 ?_
  refine g_iload X dX12_fits_25 1 rfl ?_
  refine g_iald X aM_19 dX12_fits_27 h (fun v2 h => ?_)
  refine g_aload_n X dX12_fits_28 2 rfl ?_
  refine g_getR X fM_20 rfl dX12_fits_29 ?_
  refine g_iload X dX12_fits_32 1 rfl ?_
  refine g_iald X aM_20 dX12_fits_34 h (fun v3 h => ?_)
  refine g_iload X dX12_fits_35 0 rfl ?_
  refine g_callsI (rest := [iv v1]) X (fun u9 h9 => cp_X12_turnedX l E r N v2 v3 (a2 % 4) t u9 h9) yy_X12_turnedX wdT_X12_turnedX wdM_RX12_470 rfl rfl (Nat.le_of_ble_eq_true rfl) dX12_fits_37 ⟨by decide, by decide⟩ ⟨rfl, rfl⟩ h (fun v5 t4 h => ?_)
  refine g_isub X dX12_fits_40 ?_
  refine g_istore (lv' := [(8, iv (v1 - v5)), (7, iv (a2 % 4)), (6, iv ((8 * a0) + (a2 / 4))), (0, .ref (r 200)), (1, iv a0), (2, iv a1), (3, iv a2), (4, .long a3)]) X dX12_fits_41 (by decide) rfl ?_
  refine g_aload_n X dX12_fits_43 3 rfl ?_
  refine g_getR X fM_39 rfl dX12_fits_44 ?_
  refine g_iload_n X dX12_fits_47 5 rfl ?_
  refine g_iald X aM_39 dX12_fits_48 h (fun v6 h => ?_)
  refine g_aload_n X dX12_fits_49 3 rfl ?_
  refine g_getR X fM_19 rfl dX12_fits_50 ?_
  refine g_iload X dX12_fits_53 2 rfl ?_
  refine g_iald X aM_19 dX12_fits_55 h (fun v7 h => ?_)
  refine g_aload_n X dX12_fits_56 3 rfl ?_
  refine g_getR X fM_20 rfl dX12_fits_57 ?_
  refine g_iload X dX12_fits_60 2 rfl ?_
  refine g_iald X aM_20 dX12_fits_62 h (fun v8 h => ?_)
  refine g_iload X dX12_fits_63 1 rfl ?_
  refine g_callsI (rest := [iv v6]) X (fun u9 h9 => cp_X12_turnedY l E r N v7 v8 (a2 % 4) t4 u9 h9) yy_X12_turnedY wdT_X12_turnedY wdM_RX12_474 rfl rfl (Nat.le_of_ble_eq_true rfl) dX12_fits_65 ⟨by decide, by decide⟩ ⟨rfl, rfl⟩ h (fun v10 t9 h => ?_)
  refine g_isub X dX12_fits_68 ?_
  refine g_istore (lv' := [(9, iv (v6 - v10)), (8, iv (v1 - v5)), (7, iv (a2 % 4)), (6, iv ((8 * a0) + (a2 / 4))), (0, .ref (r 200)), (1, iv a0), (2, iv a1), (3, iv a2), (4, .long a3)]) X dX12_fits_69 (by decide) rfl ?_
  refine g_iconst X dX12_fits_71 ?_
  refine g_istore (lv' := [(10, iv 0), (9, iv (v6 - v10)), (8, iv (v1 - v5)), (7, iv (a2 % 4)), (6, iv ((8 * a0) + (a2 / 4))), (0, .ref (r 200)), (1, iv a0), (2, iv a1), (3, iv a2), (4, .long a3)]) X dX12_fits_72 (by decide) rfl ?_
  refine g_sub (lv' := [(0, .ref (r 200)), (1, iv a0), (4, .long a3), (7, iv (a2 % 4)), (8, iv (v1 - v5)), (9, iv (v6 - v10)), (10, iv 0)]) [5, 6, 9, 3, 2, 1, 0] rfl (t_f_X12_fits_L74 X (fun t44 h => ?_) N 0 t9 h)
  · refine g_aload_n X dX12_fits_241 0 rfl ?_
    refine g_iload X dX12_fits_242 2 rfl ?_
    refine g_putI X fM_82w rfl dX12_fits_244 h (fun t45 h => ?_)
    refine g_aload_n X dX12_fits_247 0 rfl ?_
    refine g_iload X dX12_fits_248 3 rfl ?_
    refine g_putI X fM_83w rfl dX12_fits_250 h (fun t46 h => ?_)
    refine g_aload_n X dX12_fits_253 0 rfl ?_
    refine g_iload X dX12_fits_254 1 rfl ?_
    refine g_putI X fM_84w rfl dX12_fits_256 h (fun t47 h => ?_)
    refine g_iconst X dX12_fits_259 ?_
    exact g_zret X h dX12_fits_260
set_option maxHeartbeats 4000000 in
set_option maxRecDepth 100000 in
theorem cp_X12_fits (l : Launch) (E : cE) (r : Nat → Nat) (N : Nat) (a0 : Int) (a1 : Int) (a2 : Int) (a3 : Int64) (t : St) (z : Int × St) (h : f_X12_fits N a0 a1 a2 a3 t = some z) : cM l E yX12_fits cX12_fits 13 (some .boolean) rm_f_X12_fits [.ref (r 200), iv a0, iv a1, iv a2, .long a3] (gW E r shM t) (gqI E (gW E r shM) z) := by
  refine g_of (w := gW E r shM) (by decide) (Nat.le_of_ble_eq_true rfl) ?_
  intro p e s m below meth c A X
  exact g_sub (lv' := [(0, .ref (r 200)), (1, iv a0), (2, iv a1), (3, iv a2), (4, .long a3)]) [0, 1, 2, 3, 4] rfl (b_f_X12_fits X h)
theorem yy_X12_fits : cY yX12_fits cX12_fits 13 (some .boolean) 4 := ⟨wdK_X12_fits, wdZ_RX12, by decide +kernel⟩
theorem yi_X12_fits : cYi yX12_fits := ⟨wdN_X12_fits, wdS_X12_fits⟩
theorem dX12_ofCopy_0 : decode cX12_ofCopy 0 = .ok (.lconst 0, 1) := by decide +kernel
theorem dX12_ofCopy_1 : decode cX12_ofCopy 1 = .ok (.lstore_n 2, 1) := by decide +kernel
theorem dX12_ofCopy_2 : decode cX12_ofCopy 2 = .ok (.iconst 0, 1) := by decide +kernel
theorem dX12_ofCopy_3 : decode cX12_ofCopy 3 = .ok (.istore 4, 2) := by decide +kernel
theorem dX12_ofCopy_5 : decode cX12_ofCopy 5 = .ok (.iload 4, 2) := by decide +kernel
theorem dX12_ofCopy_7 : decode cX12_ofCopy 7 = .ok (.aload_n 0, 1) := by decide +kernel
theorem dX12_ofCopy_8 : decode cX12_ofCopy 8 = .ok (.getfield 26, 3) := by decide +kernel
theorem dX12_ofCopy_11 : decode cX12_ofCopy 11 = .ok (.iload_n 1, 1) := by decide +kernel
theorem dX12_ofCopy_12 : decode cX12_ofCopy 12 = .ok (.iaload, 1) := by decide +kernel
theorem dX12_ofCopy_13 : decode cX12_ofCopy 13 = .ok (.if_icmp .ge 22, 3) := by decide +kernel
theorem dX12_ofCopy_16 : decode cX12_ofCopy 16 = .ok (.lload_n 2, 1) := by decide +kernel
theorem dX12_ofCopy_17 : decode cX12_ofCopy 17 = .ok (.aload_n 0, 1) := by decide +kernel
theorem dX12_ofCopy_18 : decode cX12_ofCopy 18 = .ok (.getfield 165, 3) := by decide +kernel
theorem dX12_ofCopy_21 : decode cX12_ofCopy 21 = .ok (.iload 4, 2) := by decide +kernel
theorem dX12_ofCopy_23 : decode cX12_ofCopy 23 = .ok (.iaload, 1) := by decide +kernel
theorem dX12_ofCopy_24 : decode cX12_ofCopy 24 = .ok (.invokestatic 442, 3) := by decide +kernel
theorem dX12_ofCopy_27 : decode cX12_ofCopy 27 = .ok (.lor, 1) := by decide +kernel
theorem dX12_ofCopy_28 : decode cX12_ofCopy 28 = .ok (.lstore_n 2, 1) := by decide +kernel
theorem dX12_ofCopy_29 : decode cX12_ofCopy 29 = .ok (.iinc 4 1, 3) := by decide +kernel
theorem dX12_ofCopy_32 : decode cX12_ofCopy 32 = .ok (.goto (-27), 3) := by decide +kernel
theorem dX12_ofCopy_35 : decode cX12_ofCopy 35 = .ok (.lload_n 2, 1) := by decide +kernel
theorem dX12_ofCopy_36 : decode cX12_ofCopy 36 = .ok (.lreturn, 1) := by decide +kernel
abbrev rm_f_X12_ofCopy : Room := { frames := 1, cells := 0, slots := 0, locals := 20 }
def f_X12_ofCopy_L5 (N : Nat) (K5 : (Int64 → St → Option (Int64 × St))) (y1 : Int) : Nat → Int64 → Int → St → Option (Int64 × St)
  | 0, _, _, _ => none
  | n9 + 1, x2, x3, t4 =>
    ixI y1 40 (lt1 (t4.1 18 y1.toNat) fun v6 =>
    cmpI x3 v6 (if x3 < v6 then (ixI x3 8 (lt1 (t4.1 81 x3.toNat) fun v7 =>
    bdL (f_X12_one N v7 t4) fun v9 t8 =>
    f_X12_ofCopy_L5 N K5 y1 n9 (x2 ||| v9) (x3 + 1) t8))
    else (K5 x2 t4)))
def f_X12_ofCopy (N : Nat) (a0 : Int) (t : St) : Option (Int64 × St) :=
    f_X12_ofCopy_L5 N (fun (k10 : Int64) (t11 : St) => some (k10, t11)) a0 N (0 : Int64) 0 t
set_option maxHeartbeats 4000000 in
set_option maxRecDepth 100000 in
theorem t_f_X12_ofCopy_L5 {p : Program} {l : Launch} {e : Env} {s : State} {m : MethodId} {args : Array Value} {below : List Frame} {meth : Method} {c : Code} {E : cE} {A : Nat → Prop} {r : Nat → Nat} {mc ms : Nat} {z : Int64 × St} {N : Nat} {K5 : (Int64 → St → Option (Int64 × St))} {y1 : Int} (X : gX p s m meth c cX12_ofCopy 5 (some .long) yX12_ofCopy args E A) (hK5 : ∀ (q2 : Int64) (t9 : St), K5 q2 t9 = some z → gP p l e rm_f_X12_ofCopy s m args below meth c E A 5 (MQ below ((gqL E (gW E r shM) z) A) args s mc ms A) (gW E r shM) 35 [(2, .long q2)] [] t9) : ∀ (n9 : Nat) (x2 : Int64) (x3 : Int) (t4 : St), f_X12_ofCopy_L5 N K5 y1 n9 x2 x3 t4 = some z → gP p l e rm_f_X12_ofCopy s m args below meth c E A 5 (MQ below ((gqL E (gW E r shM) z) A) args s mc ms A) (gW E r shM) 5 [(0, .ref (r 200)), (1, iv y1), (2, .long x2), (4, iv x3)] [] t4 := by
  intro n9
  induction n9 with
  | zero => intro x2 x3 t4 h; cases h
  | succ n9 ih =>
    intro x2 x3 t4 h
    unfold f_X12_ofCopy_L5 at h
    refine g_iload X dX12_ofCopy_5 3 rfl ?_
    refine g_aload_n X dX12_ofCopy_7 0 rfl ?_
    refine g_getR X fM_18 rfl dX12_ofCopy_8 ?_
    refine g_iload_n X dX12_ofCopy_11 1 rfl ?_
    refine g_iald X aM_18 dX12_ofCopy_12 h (fun v6 h => ?_)
    refine g_icmp_ge (tgt := 35) X dX12_ofCopy_13 (by decide) h (fun h => ?_) (fun h => ?_)
    · exact g_sub (lv' := [(2, .long x2)]) [2] rfl (hK5 x2 t4 h)
    · refine g_lload_n X dX12_ofCopy_16 2 rfl ?_
      refine g_aload_n X dX12_ofCopy_17 0 rfl ?_
      refine g_getR X fM_81 rfl dX12_ofCopy_18 ?_
      refine g_iload X dX12_ofCopy_21 3 rfl ?_
      refine g_iald X aM_81 dX12_ofCopy_23 h (fun v7 h => ?_)
      refine g_callsL (rest := [.long x2]) X (fun u9 h9 => cp_X12_one l E r N v7 t4 u9 h9) yy_X12_one wdT_X12_one wdM_RX12_442 rfl rfl (Nat.le_of_ble_eq_true rfl) dX12_ofCopy_24 ⟨by decide, by decide⟩ ⟨rfl, rfl⟩ h (fun v9 t8 h => ?_)
      refine g_lor X dX12_ofCopy_27 ?_
      refine g_lstore_n (lv' := [(2, .long (x2 ||| v9)), (0, .ref (r 200)), (1, iv y1), (4, iv x3)]) X dX12_ofCopy_28 rfl (by decide) rfl ?_
      refine g_iinc (lv' := [(4, iv (x3 + 1)), (2, .long (x2 ||| v9)), (0, .ref (r 200)), (1, iv y1)]) X dX12_ofCopy_29 (k := 3) rfl (by decide) rfl ?_
      refine g_goto (tgt := 5) X dX12_ofCopy_32 (by decide) ?_
      exact g_sub (lv' := [(0, .ref (r 200)), (1, iv y1), (2, .long (x2 ||| v9)), (4, iv (x3 + 1))]) [2, 3, 1, 0] rfl (ih (x2 ||| v9) (x3 + 1) t8 h)
set_option maxHeartbeats 4000000 in
set_option maxRecDepth 100000 in
theorem b_f_X12_ofCopy {p : Program} {l : Launch} {e : Env} {s : State} {m : MethodId} {args : Array Value} {below : List Frame} {meth : Method} {c : Code} {E : cE} {A : Nat → Prop} {r : Nat → Nat} {mc ms : Nat} {z : Int64 × St} {N : Nat} {a0 : Int} {t : St} (X : gX p s m meth c cX12_ofCopy 5 (some .long) yX12_ofCopy args E A) (h : f_X12_ofCopy N a0 t = some z) : gP p l e rm_f_X12_ofCopy s m args below meth c E A 5 (MQ below ((gqL E (gW E r shM) z) A) args s mc ms A) (gW E r shM) 0 [(0, .ref (r 200)), (1, iv a0)] [] t := by
  unfold f_X12_ofCopy at h
  refine g_lconst (v := 0) X dX12_ofCopy_0 (by decide) ?_
  refine g_lstore_n (lv' := [(2, .long (0 : Int64)), (0, .ref (r 200)), (1, iv a0)]) X dX12_ofCopy_1 rfl (by decide) rfl ?_
  refine g_iconst X dX12_ofCopy_2 ?_
  refine g_istore (lv' := [(4, iv 0), (2, .long (0 : Int64)), (0, .ref (r 200)), (1, iv a0)]) X dX12_ofCopy_3 (by decide) rfl ?_
  refine g_sub (lv' := [(0, .ref (r 200)), (1, iv a0), (2, .long (0 : Int64)), (4, iv 0)]) [2, 3, 1, 0] rfl (t_f_X12_ofCopy_L5 X (fun k10 t11 h => ?_) N (0 : Int64) 0 t h)
  · refine g_lload_n X dX12_ofCopy_35 0 rfl ?_
    exact g_lret X h dX12_ofCopy_36
set_option maxHeartbeats 4000000 in
set_option maxRecDepth 100000 in
theorem cp_X12_ofCopy (l : Launch) (E : cE) (r : Nat → Nat) (N : Nat) (a0 : Int) (t : St) (z : Int64 × St) (h : f_X12_ofCopy N a0 t = some z) : cM l E yX12_ofCopy cX12_ofCopy 5 (some .long) rm_f_X12_ofCopy [.ref (r 200), iv a0] (gW E r shM t) (gqL E (gW E r shM) z) := by
  refine g_of (w := gW E r shM) (by decide) (Nat.le_of_ble_eq_true rfl) ?_
  intro p e s m below meth c A X
  exact g_sub (lv' := [(0, .ref (r 200)), (1, iv a0)]) [0, 1] rfl (b_f_X12_ofCopy X h)
theorem yy_X12_ofCopy : cY yX12_ofCopy cX12_ofCopy 5 (some .long) 1 := ⟨wdK_X12_ofCopy, wdZ_RX12, by decide +kernel⟩
theorem yi_X12_ofCopy : cYi yX12_ofCopy := ⟨wdN_X12_ofCopy, wdS_X12_ofCopy⟩
theorem dX12_greedy_0 : decode cX12_greedy 0 = .ok (.aload_n 0, 1) := by decide +kernel
theorem dX12_greedy_1 : decode cX12_greedy 1 = .ok (.invokevirtual 493, 3) := by decide +kernel
theorem dX12_greedy_4 : decode cX12_greedy 4 = .ok (.lload_n 1, 1) := by decide +kernel
theorem dX12_greedy_5 : decode cX12_greedy 5 = .ok (.lstore 5, 2) := by decide +kernel
theorem dX12_greedy_7 : decode cX12_greedy 7 = .ok (.lconst 0, 1) := by decide +kernel
theorem dX12_greedy_8 : decode cX12_greedy 8 = .ok (.lstore 7, 2) := by decide +kernel
theorem dX12_greedy_10 : decode cX12_greedy 10 = .ok (.iconst 0, 1) := by decide +kernel
theorem dX12_greedy_11 : decode cX12_greedy 11 = .ok (.istore 9, 2) := by decide +kernel
theorem dX12_greedy_13 : decode cX12_greedy 13 = .ok (.iload 9, 2) := by decide +kernel
theorem dX12_greedy_15 : decode cX12_greedy 15 = .ok (.aload_n 0, 1) := by decide +kernel
theorem dX12_greedy_16 : decode cX12_greedy 16 = .ok (.getfield 231, 3) := by decide +kernel
theorem dX12_greedy_19 : decode cX12_greedy 19 = .ok (.if_icmp .ge 126, 3) := by decide +kernel
theorem dX12_greedy_22 : decode cX12_greedy 22 = .ok (.aload_n 0, 1) := by decide +kernel
theorem dX12_greedy_23 : decode cX12_greedy 23 = .ok (.getfield 162, 3) := by decide +kernel
theorem dX12_greedy_26 : decode cX12_greedy 26 = .ok (.iload 9, 2) := by decide +kernel
theorem dX12_greedy_28 : decode cX12_greedy 28 = .ok (.iaload, 1) := by decide +kernel
theorem dX12_greedy_29 : decode cX12_greedy 29 = .ok (.istore 10, 2) := by decide +kernel
theorem dX12_greedy_31 : decode cX12_greedy 31 = .ok (.lload 5, 2) := by decide +kernel
theorem dX12_greedy_33 : decode cX12_greedy 33 = .ok (.iload 10, 2) := by decide +kernel
theorem dX12_greedy_35 : decode cX12_greedy 35 = .ok (.invokestatic 446, 3) := by decide +kernel
theorem dX12_greedy_38 : decode cX12_greedy 38 = .ok (.ifCond .ne 6, 3) := by decide +kernel
theorem dX12_greedy_41 : decode cX12_greedy 41 = .ok (.goto 98, 3) := by decide +kernel
theorem dX12_greedy_44 : decode cX12_greedy 44 = .ok (.iconst 0, 1) := by decide +kernel
theorem dX12_greedy_45 : decode cX12_greedy 45 = .ok (.istore 11, 2) := by decide +kernel
theorem dX12_greedy_47 : decode cX12_greedy 47 = .ok (.iload 11, 2) := by decide +kernel
theorem dX12_greedy_49 : decode cX12_greedy 49 = .ok (.iconst 4, 1) := by decide +kernel
theorem dX12_greedy_50 : decode cX12_greedy 50 = .ok (.aload_n 0, 1) := by decide +kernel
theorem dX12_greedy_51 : decode cX12_greedy 51 = .ok (.getfield 26, 3) := by decide +kernel
theorem dX12_greedy_54 : decode cX12_greedy 54 = .ok (.iload_n 3, 1) := by decide +kernel
theorem dX12_greedy_55 : decode cX12_greedy 55 = .ok (.iaload, 1) := by decide +kernel
theorem dX12_greedy_56 : decode cX12_greedy 56 = .ok (.imul, 1) := by decide +kernel
theorem dX12_greedy_57 : decode cX12_greedy 57 = .ok (.if_icmp .ge 23, 3) := by decide +kernel
theorem dX12_greedy_60 : decode cX12_greedy 60 = .ok (.aload_n 0, 1) := by decide +kernel
theorem dX12_greedy_61 : decode cX12_greedy 61 = .ok (.iload_n 3, 1) := by decide +kernel
theorem dX12_greedy_62 : decode cX12_greedy 62 = .ok (.iload 10, 2) := by decide +kernel
theorem dX12_greedy_64 : decode cX12_greedy 64 = .ok (.iload 11, 2) := by decide +kernel
theorem dX12_greedy_66 : decode cX12_greedy 66 = .ok (.lload 5, 2) := by decide +kernel
theorem dX12_greedy_68 : decode cX12_greedy 68 = .ok (.invokevirtual 496, 3) := by decide +kernel
theorem dX12_greedy_71 : decode cX12_greedy 71 = .ok (.ifCond .ne 9, 3) := by decide +kernel
theorem dX12_greedy_74 : decode cX12_greedy 74 = .ok (.iinc 11 1, 3) := by decide +kernel
theorem dX12_greedy_77 : decode cX12_greedy 77 = .ok (.goto (-30), 3) := by decide +kernel
theorem dX12_greedy_80 : decode cX12_greedy 80 = .ok (.iload 11, 2) := by decide +kernel
theorem dX12_greedy_82 : decode cX12_greedy 82 = .ok (.iconst 4, 1) := by decide +kernel
theorem dX12_greedy_83 : decode cX12_greedy 83 = .ok (.aload_n 0, 1) := by decide +kernel
theorem dX12_greedy_84 : decode cX12_greedy 84 = .ok (.getfield 26, 3) := by decide +kernel
theorem dX12_greedy_87 : decode cX12_greedy 87 = .ok (.iload_n 3, 1) := by decide +kernel
theorem dX12_greedy_88 : decode cX12_greedy 88 = .ok (.iaload, 1) := by decide +kernel
theorem dX12_greedy_89 : decode cX12_greedy 89 = .ok (.imul, 1) := by decide +kernel
theorem dX12_greedy_90 : decode cX12_greedy 90 = .ok (.if_icmp .ne 6, 3) := by decide +kernel
theorem dX12_greedy_93 : decode cX12_greedy 93 = .ok (.goto 46, 3) := by decide +kernel
theorem dX12_greedy_96 : decode cX12_greedy 96 = .ok (.lload 7, 2) := by decide +kernel
theorem dX12_greedy_98 : decode cX12_greedy 98 = .ok (.iload 4, 2) := by decide +kernel
theorem dX12_greedy_100 : decode cX12_greedy 100 = .ok (.iconst (-1), 1) := by decide +kernel
theorem dX12_greedy_101 : decode cX12_greedy 101 = .ok (.if_icmp .ne 11, 3) := by decide +kernel
theorem dX12_greedy_104 : decode cX12_greedy 104 = .ok (.aload_n 0, 1) := by decide +kernel
theorem dX12_greedy_105 : decode cX12_greedy 105 = .ok (.iload_n 3, 1) := by decide +kernel
theorem dX12_greedy_106 : decode cX12_greedy 106 = .ok (.invokevirtual 500, 3) := by decide +kernel
theorem dX12_greedy_109 : decode cX12_greedy 109 = .ok (.goto 13, 3) := by decide +kernel
theorem dX12_greedy_112 : decode cX12_greedy 112 = .ok (.aload_n 0, 1) := by decide +kernel
theorem dX12_greedy_113 : decode cX12_greedy 113 = .ok (.getfield 165, 3) := by decide +kernel
theorem dX12_greedy_116 : decode cX12_greedy 116 = .ok (.iload 4, 2) := by decide +kernel
theorem dX12_greedy_118 : decode cX12_greedy 118 = .ok (.iaload, 1) := by decide +kernel
theorem dX12_greedy_119 : decode cX12_greedy 119 = .ok (.invokestatic 442, 3) := by decide +kernel
theorem dX12_greedy_122 : decode cX12_greedy 122 = .ok (.lor, 1) := by decide +kernel
theorem dX12_greedy_123 : decode cX12_greedy 123 = .ok (.lstore 7, 2) := by decide +kernel
theorem dX12_greedy_125 : decode cX12_greedy 125 = .ok (.lload 5, 2) := by decide +kernel
theorem dX12_greedy_127 : decode cX12_greedy 127 = .ok (.aload_n 0, 1) := by decide +kernel
theorem dX12_greedy_128 : decode cX12_greedy 128 = .ok (.iload_n 3, 1) := by decide +kernel
theorem dX12_greedy_129 : decode cX12_greedy 129 = .ok (.invokevirtual 500, 3) := by decide +kernel
theorem dX12_greedy_132 : decode cX12_greedy 132 = .ok (.ldc2_w 440, 3) := by decide +kernel
theorem dX12_greedy_135 : decode cX12_greedy 135 = .ok (.lxor, 1) := by decide +kernel
theorem dX12_greedy_136 : decode cX12_greedy 136 = .ok (.land, 1) := by decide +kernel
theorem dX12_greedy_137 : decode cX12_greedy 137 = .ok (.lstore 5, 2) := by decide +kernel
theorem dX12_greedy_139 : decode cX12_greedy 139 = .ok (.iinc 9 1, 3) := by decide +kernel
theorem dX12_greedy_142 : decode cX12_greedy 142 = .ok (.goto (-129), 3) := by decide +kernel
theorem dX12_greedy_145 : decode cX12_greedy 145 = .ok (.lload 7, 2) := by decide +kernel
theorem dX12_greedy_147 : decode cX12_greedy 147 = .ok (.lreturn, 1) := by decide +kernel
abbrev rm_f_X12_greedy : Room := { frames := 2, cells := 0, slots := 0, locals := 55 }
def f_X12_greedy_L47 (N : Nat) (K25 : (Int → St → Option (Int64 × St))) (y17 : Int) (y19 : Int64) (y22 : Int) : Nat → Int → St → Option (Int64 × St)
  | 0, _, _ => none
  | n9 + 1, x23, t24 =>
    ixI y17 40 (lt1 (t24.1 18 y17.toNat) fun v26 =>
    cmpI x23 (4 * v26) (if x23 < (4 * v26) then (bdI (f_X12_fits N y17 y22 x23 y19 t24) fun v28 t27 =>
    cmpI v28 0 (if v28 = 0 then (f_X12_greedy_L47 N K25 y17 y19 y22 n9 (x23 + 1) t27)
    else (K25 x23 t27)))
    else (K25 x23 t24)))
def f_X12_greedy_L13 (N : Nat) (K8 : (Int64 → St → Option (Int64 × St))) (y2 : Int) (y3 : Int) : Nat → Int64 → Int64 → Int → St → Option (Int64 × St)
  | 0, _, _, _, _ => none
  | n9 + 1, x4, x5, x6, t7 =>
    lt1 (t7.1 200 37) fun v9 =>
    cmpI x6 v9 (if x6 < v9 then (ixI x6 64 (lt1 (t7.1 80 x6.toNat) fun v10 =>
    bdI (f_X12_has N x4 v10 t7) fun v12 t11 =>
    jn1 (fun (j13 : Int64) (j14 : Int64) (t15 : St) => f_X12_greedy_L13 N K8 y2 y3 n9 j13 j14 (x6 + 1) t15) fun J16 =>
    cmpI v12 0 (if v12 = 0 then (J16 x4 x5 t11)
    else (f_X12_greedy_L47 N (fun (k29 : Int) (t30 : St) => ixI y2 40 (lt1 (t30.1 18 y2.toNat) fun v31 =>
    cmpI k29 (4 * v31) (if k29 = (4 * v31) then (J16 x4 x5 t30)
    else (jn1 (fun (j32 : Int64) (t33 : St) => bdL (f_X12_ofCopy N y2 t33) fun v36 t35 =>
    J16 (x4 &&& (v36 ^^^ (-1 : Int64))) (x5 ||| j32) t35) fun J34 =>
    cmpI y3 (-1) (if y3 = (-1) then (bdL (f_X12_ofCopy N y2 t30) fun v41 t40 =>
    J34 v41 t40)
    else (ixI y3 8 (lt1 (t30.1 81 y3.toNat) fun v37 =>
    bdL (f_X12_one N v37 t30) fun v39 t38 =>
    J34 v39 t38))))))) y2 x4 v10 N 0 t11))))
    else (K8 x5 t7))
def f_X12_greedy (N : Nat) (a0 : Int64) (a1 : Int) (a2 : Int) (t : St) : Option (Int64 × St) :=
    bdV (f_X12_sort N t) fun t1 =>
    f_X12_greedy_L13 N (fun (k42 : Int64) (t43 : St) => some (k42, t43)) a1 a2 N a0 (0 : Int64) 0 t1
set_option maxHeartbeats 4000000 in
set_option maxRecDepth 100000 in
theorem t_f_X12_greedy_L47 {p : Program} {l : Launch} {e : Env} {s : State} {m : MethodId} {args : Array Value} {below : List Frame} {meth : Method} {c : Code} {E : cE} {A : Nat → Prop} {r : Nat → Nat} {mc ms : Nat} {z : Int64 × St} {N : Nat} {K25 : (Int → St → Option (Int64 × St))} {y17 : Int} {y18 : Int} {y19 : Int64} {y20 : Int64} {y21 : Int} {y22 : Int} (X : gX p s m meth c cX12_greedy 12 (some .long) yX12_greedy args E A) (hK25 : ∀ (q11 : Int) (t9 : St), K25 q11 t9 = some z → gP p l e rm_f_X12_greedy s m args below meth c E A 12 (MQ below ((gqL E (gW E r shM) z) A) args s mc ms A) (gW E r shM) 80 [(0, .ref (r 200)), (3, iv y17), (4, iv y18), (5, .long y19), (7, .long y20), (9, iv y21), (11, iv q11)] [] t9) : ∀ (n9 : Nat) (x23 : Int) (t24 : St), f_X12_greedy_L47 N K25 y17 y19 y22 n9 x23 t24 = some z → gP p l e rm_f_X12_greedy s m args below meth c E A 12 (MQ below ((gqL E (gW E r shM) z) A) args s mc ms A) (gW E r shM) 47 [(0, .ref (r 200)), (3, iv y17), (4, iv y18), (5, .long y19), (7, .long y20), (9, iv y21), (10, iv y22), (11, iv x23)] [] t24 := by
  intro n9
  induction n9 with
  | zero => intro x23 t24 h; cases h
  | succ n9 ih =>
    intro x23 t24 h
    unfold f_X12_greedy_L47 at h
    refine g_iload X dX12_greedy_47 7 rfl ?_
    refine g_iconst X dX12_greedy_49 ?_
    refine g_aload_n X dX12_greedy_50 0 rfl ?_
    refine g_getR X fM_18 rfl dX12_greedy_51 ?_
    refine g_iload_n X dX12_greedy_54 1 rfl ?_
    refine g_iald X aM_18 dX12_greedy_55 h (fun v26 h => ?_)
    refine g_imul X dX12_greedy_56 ?_
    refine g_icmp_ge (tgt := 80) X dX12_greedy_57 (by decide) h (fun h => ?_) (fun h => ?_)
    · exact g_sub (lv' := [(0, .ref (r 200)), (3, iv y17), (4, iv y18), (5, .long y19), (7, .long y20), (9, iv y21), (11, iv x23)]) [0, 1, 2, 3, 4, 5, 7] rfl (hK25 x23 t24 h)
    · refine g_aload_n X dX12_greedy_60 0 rfl ?_
      refine g_iload_n X dX12_greedy_61 1 rfl ?_
      refine g_iload X dX12_greedy_62 6 rfl ?_
      refine g_iload X dX12_greedy_64 7 rfl ?_
      refine g_lload X dX12_greedy_66 3 rfl ?_
      refine g_callI (rest := []) X (fun u9 h9 => cp_X12_fits l E r N y17 y22 x23 y19 t24 u9 h9) yy_X12_fits yi_X12_fits wdM_RX12_496 0 12 (gW_at oM) rfl rfl rfl (Nat.le_of_ble_eq_true rfl) dX12_greedy_68 ⟨by decide, by decide⟩ ⟨rfl, rfl⟩ h (fun v28 t27 h => ?_)
      refine g_if_ne (tgt := 80) X dX12_greedy_71 (by decide) h (fun h => ?_) (fun h => ?_)
      · exact g_sub (lv' := [(0, .ref (r 200)), (3, iv y17), (4, iv y18), (5, .long y19), (7, .long y20), (9, iv y21), (11, iv x23)]) [0, 1, 2, 3, 4, 5, 7] rfl (hK25 x23 t27 h)
      · refine g_iinc (lv' := [(11, iv (x23 + 1)), (0, .ref (r 200)), (3, iv y17), (4, iv y18), (5, .long y19), (7, .long y20), (9, iv y21), (10, iv y22)]) X dX12_greedy_74 (k := 7) rfl (by decide) rfl ?_
        refine g_goto (tgt := 47) X dX12_greedy_77 (by decide) ?_
        exact g_sub (lv' := [(0, .ref (r 200)), (3, iv y17), (4, iv y18), (5, .long y19), (7, .long y20), (9, iv y21), (10, iv y22), (11, iv (x23 + 1))]) [1, 2, 3, 4, 5, 6, 7, 0] rfl (ih (x23 + 1) t27 h)
set_option maxHeartbeats 4000000 in
set_option maxRecDepth 100000 in
theorem t_f_X12_greedy_L13 {p : Program} {l : Launch} {e : Env} {s : State} {m : MethodId} {args : Array Value} {below : List Frame} {meth : Method} {c : Code} {E : cE} {A : Nat → Prop} {r : Nat → Nat} {mc ms : Nat} {z : Int64 × St} {N : Nat} {K8 : (Int64 → St → Option (Int64 × St))} {y2 : Int} {y3 : Int} (X : gX p s m meth c cX12_greedy 12 (some .long) yX12_greedy args E A) (hK8 : ∀ (q7 : Int64) (t9 : St), K8 q7 t9 = some z → gP p l e rm_f_X12_greedy s m args below meth c E A 12 (MQ below ((gqL E (gW E r shM) z) A) args s mc ms A) (gW E r shM) 145 [(7, .long q7)] [] t9) : ∀ (n9 : Nat) (x4 : Int64) (x5 : Int64) (x6 : Int) (t7 : St), f_X12_greedy_L13 N K8 y2 y3 n9 x4 x5 x6 t7 = some z → gP p l e rm_f_X12_greedy s m args below meth c E A 12 (MQ below ((gqL E (gW E r shM) z) A) args s mc ms A) (gW E r shM) 13 [(0, .ref (r 200)), (3, iv y2), (4, iv y3), (5, .long x4), (7, .long x5), (9, iv x6)] [] t7 := by
  intro n9
  induction n9 with
  | zero => intro x4 x5 x6 t7 h; cases h
  | succ n9 ih =>
    intro x4 x5 x6 t7 h
    unfold f_X12_greedy_L13 at h
    refine g_iload X dX12_greedy_13 5 rfl ?_
    refine g_aload_n X dX12_greedy_15 0 rfl ?_
    refine g_getI X fM_37 rfl dX12_greedy_16 h (fun v9 h => ?_)
    refine g_icmp_ge (tgt := 145) X dX12_greedy_19 (by decide) h (fun h => ?_) (fun h => ?_)
    · exact g_sub (lv' := [(7, .long x5)]) [4] rfl (hK8 x5 t7 h)
    · refine g_aload_n X dX12_greedy_22 0 rfl ?_
      refine g_getR X fM_80 rfl dX12_greedy_23 ?_
      refine g_iload X dX12_greedy_26 5 rfl ?_
      refine g_iald X aM_80 dX12_greedy_28 h (fun v10 h => ?_)
      refine g_istore (lv' := [(10, iv v10), (0, .ref (r 200)), (3, iv y2), (4, iv y3), (5, .long x4), (7, .long x5), (9, iv x6)]) X dX12_greedy_29 (by decide) rfl ?_
      refine g_lload X dX12_greedy_31 4 rfl ?_
      refine g_iload X dX12_greedy_33 0 rfl ?_
      refine g_callsI (rest := []) X (fun u9 h9 => cp_X12_has l E r N x4 v10 t7 u9 h9) yy_X12_has wdT_X12_has wdM_RX12_446 rfl rfl (Nat.le_of_ble_eq_true rfl) dX12_greedy_35 ⟨by decide, by decide⟩ ⟨rfl, rfl⟩ h (fun v12 t11 h => ?_)
      refine g_join (J := fun jj => ∀ (j13 : Int64) (j14 : Int64) (t15 : St), jj j13 j14 t15 = some z → gP p l e rm_f_X12_greedy s m args below meth c E A 12 (MQ below ((gqL E (gW E r shM) z) A) args s mc ms A) (gW E r shM) 139 [(0, .ref (r 200)), (3, iv y2), (4, iv y3), (5, .long j13), (7, .long j14), (9, iv x6)] [] t15) h (fun j13 j14 t15 h => ?_) (fun J16 hJ16 h => ?_)
      · refine g_iinc (lv' := [(9, iv (x6 + 1)), (0, .ref (r 200)), (3, iv y2), (4, iv y3), (5, .long j13), (7, .long j14)]) X dX12_greedy_139 (k := 5) rfl (by decide) rfl ?_
        refine g_goto (tgt := 13) X dX12_greedy_142 (by decide) ?_
        exact g_sub (lv' := [(0, .ref (r 200)), (3, iv y2), (4, iv y3), (5, .long j13), (7, .long j14), (9, iv (x6 + 1))]) [1, 2, 3, 4, 5, 0] rfl (ih j13 j14 (x6 + 1) t15 h)
      refine g_if_ne (tgt := 44) X dX12_greedy_38 (by decide) h (fun h => ?_) (fun h => ?_)
      · refine g_iconst X dX12_greedy_44 ?_
        refine g_istore (lv' := [(11, iv 0), (10, iv v10), (0, .ref (r 200)), (3, iv y2), (4, iv y3), (5, .long x4), (7, .long x5), (9, iv x6)]) X dX12_greedy_45 (by decide) rfl ?_
        refine g_sub (lv' := [(0, .ref (r 200)), (3, iv y2), (4, iv y3), (5, .long x4), (7, .long x5), (9, iv x6), (10, iv v10), (11, iv 0)]) [2, 3, 4, 5, 6, 7, 1, 0] rfl (t_f_X12_greedy_L47 X (fun k29 t30 h => ?_) N 0 t11 h)
        · refine g_iload X dX12_greedy_80 6 rfl ?_
          refine g_iconst X dX12_greedy_82 ?_
          refine g_aload_n X dX12_greedy_83 0 rfl ?_
          refine g_getR X fM_18 rfl dX12_greedy_84 ?_
          refine g_iload_n X dX12_greedy_87 1 rfl ?_
          refine g_iald X aM_18 dX12_greedy_88 h (fun v31 h => ?_)
          refine g_imul X dX12_greedy_89 ?_
          refine g_icmp_ne (tgt := 96) X dX12_greedy_90 (by decide) h (fun h => ?_) (fun h => ?_)
          · refine g_lload X dX12_greedy_96 4 rfl ?_
            refine g_iload X dX12_greedy_98 2 rfl ?_
            refine g_iconst X dX12_greedy_100 ?_
            refine g_join (J := fun jj => ∀ (j32 : Int64) (t33 : St), jj j32 t33 = some z → gP p l e rm_f_X12_greedy s m args below meth c E A 12 (MQ below ((gqL E (gW E r shM) z) A) args s mc ms A) (gW E r shM) 122 [(0, .ref (r 200)), (3, iv y2), (4, iv y3), (5, .long x4), (9, iv x6)] [.long j32, .long x5] t33) h (fun j32 t33 h => ?_) (fun J34 hJ34 h => ?_)
            · refine g_lor X dX12_greedy_122 ?_
              refine g_lstore (lv' := [(7, .long (x5 ||| j32)), (0, .ref (r 200)), (3, iv y2), (4, iv y3), (5, .long x4), (9, iv x6)]) X dX12_greedy_123 (by decide) rfl ?_
              refine g_lload X dX12_greedy_125 4 rfl ?_
              refine g_aload_n X dX12_greedy_127 1 rfl ?_
              refine g_iload_n X dX12_greedy_128 2 rfl ?_
              refine g_callL (rest := [.long x4]) X (fun u9 h9 => cp_X12_ofCopy l E r N y2 t33 u9 h9) yy_X12_ofCopy yi_X12_ofCopy wdM_RX12_500 0 12 (gW_at oM) rfl rfl rfl (Nat.le_of_ble_eq_true rfl) dX12_greedy_129 ⟨by decide, by decide⟩ ⟨rfl, rfl⟩ h (fun v36 t35 h => ?_)
              refine g_ldc2 X rfl wdL_RX12_440 dX12_greedy_132 ?_
              refine g_lxor X dX12_greedy_135 ?_
              refine g_land X dX12_greedy_136 ?_
              refine g_lstore (lv' := [(5, .long (x4 &&& (v36 ^^^ (-1 : Int64)))), (7, .long (x5 ||| j32)), (0, .ref (r 200)), (3, iv y2), (4, iv y3), (9, iv x6)]) X dX12_greedy_137 (by decide) rfl ?_
              exact g_sub (lv' := [(0, .ref (r 200)), (3, iv y2), (4, iv y3), (5, .long (x4 &&& (v36 ^^^ (-1 : Int64)))), (7, .long (x5 ||| j32)), (9, iv x6)]) [2, 3, 4, 0, 1, 5] rfl (hJ16 (x4 &&& (v36 ^^^ (-1 : Int64))) (x5 ||| j32) t35 h)
            refine g_icmp_ne (tgt := 112) X dX12_greedy_101 (by decide) h (fun h => ?_) (fun h => ?_)
            · refine g_aload_n X dX12_greedy_112 0 rfl ?_
              refine g_getR X fM_81 rfl dX12_greedy_113 ?_
              refine g_iload X dX12_greedy_116 2 rfl ?_
              refine g_iald X aM_81 dX12_greedy_118 h (fun v37 h => ?_)
              refine g_callsL (rest := [.long x5]) X (fun u9 h9 => cp_X12_one l E r N v37 t30 u9 h9) yy_X12_one wdT_X12_one wdM_RX12_442 rfl rfl (Nat.le_of_ble_eq_true rfl) dX12_greedy_119 ⟨by decide, by decide⟩ ⟨rfl, rfl⟩ h (fun v39 t38 h => ?_)
              exact g_sub (lv' := [(0, .ref (r 200)), (3, iv y2), (4, iv y3), (5, .long x4), (9, iv x6)]) [0, 1, 2, 3, 5] rfl (hJ34 v39 t38 h)
            · refine g_aload_n X dX12_greedy_104 0 rfl ?_
              refine g_iload_n X dX12_greedy_105 1 rfl ?_
              refine g_callL (rest := [.long x5]) X (fun u9 h9 => cp_X12_ofCopy l E r N y2 t30 u9 h9) yy_X12_ofCopy yi_X12_ofCopy wdM_RX12_500 0 12 (gW_at oM) rfl rfl rfl (Nat.le_of_ble_eq_true rfl) dX12_greedy_106 ⟨by decide, by decide⟩ ⟨rfl, rfl⟩ h (fun v41 t40 h => ?_)
              refine g_goto (tgt := 122) X dX12_greedy_109 (by decide) ?_
              exact g_sub (lv' := [(0, .ref (r 200)), (3, iv y2), (4, iv y3), (5, .long x4), (9, iv x6)]) [0, 1, 2, 3, 5] rfl (hJ34 v41 t40 h)
          · refine g_goto (tgt := 139) X dX12_greedy_93 (by decide) ?_
            exact g_sub (lv' := [(0, .ref (r 200)), (3, iv y2), (4, iv y3), (5, .long x4), (7, .long x5), (9, iv x6)]) [0, 1, 2, 3, 4, 5] rfl (hJ16 x4 x5 t30 h)
      · refine g_goto (tgt := 139) X dX12_greedy_41 (by decide) ?_
        exact g_sub (lv' := [(0, .ref (r 200)), (3, iv y2), (4, iv y3), (5, .long x4), (7, .long x5), (9, iv x6)]) [1, 2, 3, 4, 5, 6] rfl (hJ16 x4 x5 t11 h)
set_option maxHeartbeats 4000000 in
set_option maxRecDepth 100000 in
theorem b_f_X12_greedy {p : Program} {l : Launch} {e : Env} {s : State} {m : MethodId} {args : Array Value} {below : List Frame} {meth : Method} {c : Code} {E : cE} {A : Nat → Prop} {r : Nat → Nat} {mc ms : Nat} {z : Int64 × St} {N : Nat} {a0 : Int64} {a1 : Int} {a2 : Int} {t : St} (X : gX p s m meth c cX12_greedy 12 (some .long) yX12_greedy args E A) (h : f_X12_greedy N a0 a1 a2 t = some z) : gP p l e rm_f_X12_greedy s m args below meth c E A 12 (MQ below ((gqL E (gW E r shM) z) A) args s mc ms A) (gW E r shM) 0 [(0, .ref (r 200)), (1, .long a0), (3, iv a1), (4, iv a2)] [] t := by
  unfold f_X12_greedy at h
  refine g_aload_n X dX12_greedy_0 0 rfl ?_
  refine g_callV (rest := []) X (fun u9 h9 => cp_X12_sort l E r N t u9 h9) yy_X12_sort yi_X12_sort wdM_RX12_493 0 12 (gW_at oM) rfl rfl rfl (Nat.le_of_ble_eq_true rfl) dX12_greedy_1 ⟨by decide, by decide⟩ ⟨rfl, rfl⟩ h (fun t1 h => ?_)
  refine g_lload_n X dX12_greedy_4 1 rfl ?_
  refine g_lstore (lv' := [(5, .long a0), (0, .ref (r 200)), (1, .long a0), (3, iv a1), (4, iv a2)]) X dX12_greedy_5 (by decide) rfl ?_
  refine g_lconst (v := 0) X dX12_greedy_7 (by decide) ?_
  refine g_lstore (lv' := [(7, .long (0 : Int64)), (5, .long a0), (0, .ref (r 200)), (1, .long a0), (3, iv a1), (4, iv a2)]) X dX12_greedy_8 (by decide) rfl ?_
  refine g_iconst X dX12_greedy_10 ?_
  refine g_istore (lv' := [(9, iv 0), (7, .long (0 : Int64)), (5, .long a0), (0, .ref (r 200)), (1, .long a0), (3, iv a1), (4, iv a2)]) X dX12_greedy_11 (by decide) rfl ?_
  refine g_sub (lv' := [(0, .ref (r 200)), (3, iv a1), (4, iv a2), (5, .long a0), (7, .long (0 : Int64)), (9, iv 0)]) [3, 5, 6, 2, 1, 0] rfl (t_f_X12_greedy_L13 X (fun k42 t43 h => ?_) N a0 (0 : Int64) 0 t1 h)
  · refine g_lload X dX12_greedy_145 0 rfl ?_
    exact g_lret X h dX12_greedy_147
set_option maxHeartbeats 4000000 in
set_option maxRecDepth 100000 in
theorem cp_X12_greedy (l : Launch) (E : cE) (r : Nat → Nat) (N : Nat) (a0 : Int64) (a1 : Int) (a2 : Int) (t : St) (z : Int64 × St) (h : f_X12_greedy N a0 a1 a2 t = some z) : cM l E yX12_greedy cX12_greedy 12 (some .long) rm_f_X12_greedy [.ref (r 200), .long a0, iv a1, iv a2] (gW E r shM t) (gqL E (gW E r shM) z) := by
  refine g_of (w := gW E r shM) (by decide) (Nat.le_of_ble_eq_true rfl) ?_
  intro p e s m below meth c A X
  exact g_sub (lv' := [(0, .ref (r 200)), (1, .long a0), (3, iv a1), (4, iv a2)]) [0, 1, 2, 3] rfl (b_f_X12_greedy X h)
theorem yy_X12_greedy : cY yX12_greedy cX12_greedy 12 (some .long) 3 := ⟨wdK_X12_greedy, wdZ_RX12, by decide +kernel⟩
theorem yi_X12_greedy : cYi yX12_greedy := ⟨wdN_X12_greedy, wdS_X12_greedy⟩
theorem dX12_firstOf_0 : decode cX12_firstOf 0 = .ok (.iconst 0, 1) := by decide +kernel
theorem dX12_firstOf_1 : decode cX12_firstOf 1 = .ok (.istore_n 3, 1) := by decide +kernel
theorem dX12_firstOf_2 : decode cX12_firstOf 2 = .ok (.lload_n 1, 1) := by decide +kernel
theorem dX12_firstOf_3 : decode cX12_firstOf 3 = .ok (.aload_n 0, 1) := by decide +kernel
theorem dX12_firstOf_4 : decode cX12_firstOf 4 = .ok (.getfield 162, 3) := by decide +kernel
theorem dX12_firstOf_7 : decode cX12_firstOf 7 = .ok (.iload_n 3, 1) := by decide +kernel
theorem dX12_firstOf_8 : decode cX12_firstOf 8 = .ok (.iaload, 1) := by decide +kernel
theorem dX12_firstOf_9 : decode cX12_firstOf 9 = .ok (.invokestatic 446, 3) := by decide +kernel
theorem dX12_firstOf_12 : decode cX12_firstOf 12 = .ok (.ifCond .ne 9, 3) := by decide +kernel
theorem dX12_firstOf_15 : decode cX12_firstOf 15 = .ok (.iinc 3 1, 3) := by decide +kernel
theorem dX12_firstOf_18 : decode cX12_firstOf 18 = .ok (.goto (-16), 3) := by decide +kernel
theorem dX12_firstOf_21 : decode cX12_firstOf 21 = .ok (.aload_n 0, 1) := by decide +kernel
theorem dX12_firstOf_22 : decode cX12_firstOf 22 = .ok (.getfield 162, 3) := by decide +kernel
theorem dX12_firstOf_25 : decode cX12_firstOf 25 = .ok (.iload_n 3, 1) := by decide +kernel
theorem dX12_firstOf_26 : decode cX12_firstOf 26 = .ok (.iaload, 1) := by decide +kernel
theorem dX12_firstOf_27 : decode cX12_firstOf 27 = .ok (.ireturn, 1) := by decide +kernel
abbrev rm_f_X12_firstOf : Room := { frames := 1, cells := 0, slots := 0, locals := 22 }
def f_X12_firstOf_L2 (N : Nat) (K4 : (Int → St → Option (Int × St))) (y1 : Int64) : Nat → Int → St → Option (Int × St)
  | 0, _, _ => none
  | n9 + 1, x2, t3 =>
    ixI x2 64 (lt1 (t3.1 80 x2.toNat) fun v5 =>
    bdI (f_X12_has N y1 v5 t3) fun v7 t6 =>
    cmpI v7 0 (if v7 = 0 then (f_X12_firstOf_L2 N K4 y1 n9 (x2 + 1) t6)
    else (K4 x2 t6)))
def f_X12_firstOf (N : Nat) (a0 : Int64) (t : St) : Option (Int × St) :=
    f_X12_firstOf_L2 N (fun (k8 : Int) (t9 : St) => ixI k8 64 (lt1 (t9.1 80 k8.toNat) fun v10 =>
    some (v10, t9))) a0 N 0 t
set_option maxHeartbeats 4000000 in
set_option maxRecDepth 100000 in
theorem t_f_X12_firstOf_L2 {p : Program} {l : Launch} {e : Env} {s : State} {m : MethodId} {args : Array Value} {below : List Frame} {meth : Method} {c : Code} {E : cE} {A : Nat → Prop} {r : Nat → Nat} {mc ms : Nat} {z : Int × St} {N : Nat} {K4 : (Int → St → Option (Int × St))} {y1 : Int64} (X : gX p s m meth c cX12_firstOf 4 (some .int) yX12_firstOf args E A) (hK4 : ∀ (q3 : Int) (t9 : St), K4 q3 t9 = some z → gP p l e rm_f_X12_firstOf s m args below meth c E A 4 (MQ below ((gqI E (gW E r shM) z) A) args s mc ms A) (gW E r shM) 21 [(0, .ref (r 200)), (3, iv q3)] [] t9) : ∀ (n9 : Nat) (x2 : Int) (t3 : St), f_X12_firstOf_L2 N K4 y1 n9 x2 t3 = some z → gP p l e rm_f_X12_firstOf s m args below meth c E A 4 (MQ below ((gqI E (gW E r shM) z) A) args s mc ms A) (gW E r shM) 2 [(0, .ref (r 200)), (1, .long y1), (3, iv x2)] [] t3 := by
  intro n9
  induction n9 with
  | zero => intro x2 t3 h; cases h
  | succ n9 ih =>
    intro x2 t3 h
    unfold f_X12_firstOf_L2 at h
    refine g_lload_n X dX12_firstOf_2 1 rfl ?_
    refine g_aload_n X dX12_firstOf_3 0 rfl ?_
    refine g_getR X fM_80 rfl dX12_firstOf_4 ?_
    refine g_iload_n X dX12_firstOf_7 2 rfl ?_
    refine g_iald X aM_80 dX12_firstOf_8 h (fun v5 h => ?_)
    refine g_callsI (rest := []) X (fun u9 h9 => cp_X12_has l E r N y1 v5 t3 u9 h9) yy_X12_has wdT_X12_has wdM_RX12_446 rfl rfl (Nat.le_of_ble_eq_true rfl) dX12_firstOf_9 ⟨by decide, by decide⟩ ⟨rfl, rfl⟩ h (fun v7 t6 h => ?_)
    refine g_if_ne (tgt := 21) X dX12_firstOf_12 (by decide) h (fun h => ?_) (fun h => ?_)
    · exact g_sub (lv' := [(0, .ref (r 200)), (3, iv x2)]) [0, 2] rfl (hK4 x2 t6 h)
    · refine g_iinc (lv' := [(3, iv (x2 + 1)), (0, .ref (r 200)), (1, .long y1)]) X dX12_firstOf_15 (k := 2) rfl (by decide) rfl ?_
      refine g_goto (tgt := 2) X dX12_firstOf_18 (by decide) ?_
      exact g_sub (lv' := [(0, .ref (r 200)), (1, .long y1), (3, iv (x2 + 1))]) [1, 2, 0] rfl (ih (x2 + 1) t6 h)
set_option maxHeartbeats 4000000 in
set_option maxRecDepth 100000 in
theorem b_f_X12_firstOf {p : Program} {l : Launch} {e : Env} {s : State} {m : MethodId} {args : Array Value} {below : List Frame} {meth : Method} {c : Code} {E : cE} {A : Nat → Prop} {r : Nat → Nat} {mc ms : Nat} {z : Int × St} {N : Nat} {a0 : Int64} {t : St} (X : gX p s m meth c cX12_firstOf 4 (some .int) yX12_firstOf args E A) (h : f_X12_firstOf N a0 t = some z) : gP p l e rm_f_X12_firstOf s m args below meth c E A 4 (MQ below ((gqI E (gW E r shM) z) A) args s mc ms A) (gW E r shM) 0 [(0, .ref (r 200)), (1, .long a0)] [] t := by
  unfold f_X12_firstOf at h
  refine g_iconst X dX12_firstOf_0 ?_
  refine g_istore_n (lv' := [(3, iv 0), (0, .ref (r 200)), (1, .long a0)]) X dX12_firstOf_1 rfl (by decide) rfl ?_
  refine g_sub (lv' := [(0, .ref (r 200)), (1, .long a0), (3, iv 0)]) [1, 2, 0] rfl (t_f_X12_firstOf_L2 X (fun k8 t9 h => ?_) N 0 t h)
  · refine g_aload_n X dX12_firstOf_21 0 rfl ?_
    refine g_getR X fM_80 rfl dX12_firstOf_22 ?_
    refine g_iload_n X dX12_firstOf_25 1 rfl ?_
    refine g_iald X aM_80 dX12_firstOf_26 h (fun v10 h => ?_)
    exact g_iret X h dX12_firstOf_27
set_option maxHeartbeats 4000000 in
set_option maxRecDepth 100000 in
theorem cp_X12_firstOf (l : Launch) (E : cE) (r : Nat → Nat) (N : Nat) (a0 : Int64) (t : St) (z : Int × St) (h : f_X12_firstOf N a0 t = some z) : cM l E yX12_firstOf cX12_firstOf 4 (some .int) rm_f_X12_firstOf [.ref (r 200), .long a0] (gW E r shM t) (gqI E (gW E r shM) z) := by
  refine g_of (w := gW E r shM) (by decide) (Nat.le_of_ble_eq_true rfl) ?_
  intro p e s m below meth c A X
  exact g_sub (lv' := [(0, .ref (r 200)), (1, .long a0)]) [0, 1] rfl (b_f_X12_firstOf X h)
theorem yy_X12_firstOf : cY yX12_firstOf cX12_firstOf 4 (some .int) 1 := ⟨wdK_X12_firstOf, wdZ_RX12, by decide +kernel⟩
theorem yi_X12_firstOf : cYi yX12_firstOf := ⟨wdN_X12_firstOf, wdS_X12_firstOf⟩
theorem dX12_parted_0 : decode cX12_parted 0 = .ok (.aload_n 0, 1) := by decide +kernel
theorem dX12_parted_1 : decode cX12_parted 1 = .ok (.iconst 0, 1) := by decide +kernel
theorem dX12_parted_2 : decode cX12_parted 2 = .ok (.putfield 503, 3) := by decide +kernel
theorem dX12_parted_5 : decode cX12_parted 5 = .ok (.aload_n 0, 1) := by decide +kernel
theorem dX12_parted_6 : decode cX12_parted 6 = .ok (.iconst 0, 1) := by decide +kernel
theorem dX12_parted_7 : decode cX12_parted 7 = .ok (.putfield 506, 3) := by decide +kernel
theorem dX12_parted_10 : decode cX12_parted 10 = .ok (.aload_n 0, 1) := by decide +kernel
theorem dX12_parted_11 : decode cX12_parted 11 = .ok (.getfield 26, 3) := by decide +kernel
theorem dX12_parted_14 : decode cX12_parted 14 = .ok (.iload_n 3, 1) := by decide +kernel
theorem dX12_parted_15 : decode cX12_parted 15 = .ok (.iaload, 1) := by decide +kernel
theorem dX12_parted_16 : decode cX12_parted 16 = .ok (.istore 4, 2) := by decide +kernel
theorem dX12_parted_18 : decode cX12_parted 18 = .ok (.lload_n 1, 1) := by decide +kernel
theorem dX12_parted_19 : decode cX12_parted 19 = .ok (.invokestatic 509, 3) := by decide +kernel
theorem dX12_parted_22 : decode cX12_parted 22 = .ok (.iload 4, 2) := by decide +kernel
theorem dX12_parted_24 : decode cX12_parted 24 = .ok (.irem, 1) := by decide +kernel
theorem dX12_parted_25 : decode cX12_parted 25 = .ok (.ifCond .eq 5, 3) := by decide +kernel
theorem dX12_parted_28 : decode cX12_parted 28 = .ok (.iconst 0, 1) := by decide +kernel
theorem dX12_parted_29 : decode cX12_parted 29 = .ok (.ireturn, 1) := by decide +kernel
theorem dX12_parted_30 : decode cX12_parted 30 = .ok (.aload_n 0, 1) := by decide +kernel
theorem dX12_parted_31 : decode cX12_parted 31 = .ok (.invokevirtual 493, 3) := by decide +kernel
theorem dX12_parted_34 : decode cX12_parted 34 = .ok (.lload_n 1, 1) := by decide +kernel
theorem dX12_parted_35 : decode cX12_parted 35 = .ok (.lstore 5, 2) := by decide +kernel
theorem dX12_parted_37 : decode cX12_parted 37 = .ok (.iconst 0, 1) := by decide +kernel
theorem dX12_parted_38 : decode cX12_parted 38 = .ok (.istore 7, 2) := by decide +kernel
theorem dX12_parted_40 : decode cX12_parted 40 = .ok (.lload 5, 2) := by decide +kernel
theorem dX12_parted_42 : decode cX12_parted 42 = .ok (.lconst 0, 1) := by decide +kernel
theorem dX12_parted_43 : decode cX12_parted 43 = .ok (.lcmp, 1) := by decide +kernel
theorem dX12_parted_44 : decode cX12_parted 44 = .ok (.ifCond .eq 220, 3) := by decide +kernel
theorem dX12_parted_47 : decode cX12_parted 47 = .ok (.aload_n 0, 1) := by decide +kernel
theorem dX12_parted_48 : decode cX12_parted 48 = .ok (.lload 5, 2) := by decide +kernel
theorem dX12_parted_50 : decode cX12_parted 50 = .ok (.invokevirtual 513, 3) := by decide +kernel
theorem dX12_parted_53 : decode cX12_parted 53 = .ok (.istore 8, 2) := by decide +kernel
theorem dX12_parted_55 : decode cX12_parted 55 = .ok (.iconst 0, 1) := by decide +kernel
theorem dX12_parted_56 : decode cX12_parted 56 = .ok (.istore 9, 2) := by decide +kernel
theorem dX12_parted_58 : decode cX12_parted 58 = .ok (.iload 7, 2) := by decide +kernel
theorem dX12_parted_60 : decode cX12_parted 60 = .ok (.iconst 4, 1) := by decide +kernel
theorem dX12_parted_61 : decode cX12_parted 61 = .ok (.iload 4, 2) := by decide +kernel
theorem dX12_parted_63 : decode cX12_parted 63 = .ok (.imul, 1) := by decide +kernel
theorem dX12_parted_64 : decode cX12_parted 64 = .ok (.if_icmp .ge 49, 3) := by decide +kernel
theorem dX12_parted_67 : decode cX12_parted 67 = .ok (.iload 9, 2) := by decide +kernel
theorem dX12_parted_69 : decode cX12_parted 69 = .ok (.ifCond .ne 44, 3) := by decide +kernel
theorem dX12_parted_72 : decode cX12_parted 72 = .ok (.aload_n 0, 1) := by decide +kernel
theorem dX12_parted_73 : decode cX12_parted 73 = .ok (.dup, 1) := by decide +kernel
theorem dX12_parted_74 : decode cX12_parted 74 = .ok (.getfield 506, 3) := by decide +kernel
theorem dX12_parted_77 : decode cX12_parted 77 = .ok (.iconst 1, 1) := by decide +kernel
theorem dX12_parted_78 : decode cX12_parted 78 = .ok (.iadd, 1) := by decide +kernel
theorem dX12_parted_79 : decode cX12_parted 79 = .ok (.putfield 506, 3) := by decide +kernel
theorem dX12_parted_82 : decode cX12_parted 82 = .ok (.aload_n 0, 1) := by decide +kernel
theorem dX12_parted_83 : decode cX12_parted 83 = .ok (.getfield 506, 3) := by decide +kernel
theorem dX12_parted_86 : decode cX12_parted 86 = .ok (.sipush 400, 3) := by decide +kernel
theorem dX12_parted_89 : decode cX12_parted 89 = .ok (.if_icmp .le 5, 3) := by decide +kernel
theorem dX12_parted_92 : decode cX12_parted 92 = .ok (.iconst (-1), 1) := by decide +kernel
theorem dX12_parted_93 : decode cX12_parted 93 = .ok (.ireturn, 1) := by decide +kernel
theorem dX12_parted_94 : decode cX12_parted 94 = .ok (.aload_n 0, 1) := by decide +kernel
theorem dX12_parted_95 : decode cX12_parted 95 = .ok (.iload_n 3, 1) := by decide +kernel
theorem dX12_parted_96 : decode cX12_parted 96 = .ok (.iload 8, 2) := by decide +kernel
theorem dX12_parted_98 : decode cX12_parted 98 = .ok (.iload 7, 2) := by decide +kernel
theorem dX12_parted_100 : decode cX12_parted 100 = .ok (.lload 5, 2) := by decide +kernel
theorem dX12_parted_102 : decode cX12_parted 102 = .ok (.invokevirtual 496, 3) := by decide +kernel
theorem dX12_parted_105 : decode cX12_parted 105 = .ok (.istore 9, 2) := by decide +kernel
theorem dX12_parted_107 : decode cX12_parted 107 = .ok (.iinc 7 1, 3) := by decide +kernel
theorem dX12_parted_110 : decode cX12_parted 110 = .ok (.goto (-52), 3) := by decide +kernel
theorem dX12_parted_113 : decode cX12_parted 113 = .ok (.iload 9, 2) := by decide +kernel
theorem dX12_parted_115 : decode cX12_parted 115 = .ok (.ifCond .eq 57, 3) := by decide +kernel
theorem dX12_parted_118 : decode cX12_parted 118 = .ok (.aload_n 0, 1) := by decide +kernel
theorem dX12_parted_119 : decode cX12_parted 119 = .ok (.getfield 168, 3) := by decide +kernel
theorem dX12_parted_122 : decode cX12_parted 122 = .ok (.aload_n 0, 1) := by decide +kernel
theorem dX12_parted_123 : decode cX12_parted 123 = .ok (.getfield 503, 3) := by decide +kernel
theorem dX12_parted_126 : decode cX12_parted 126 = .ok (.iload 8, 2) := by decide +kernel
theorem dX12_parted_128 : decode cX12_parted 128 = .ok (.iastore, 1) := by decide +kernel
theorem dX12_parted_129 : decode cX12_parted 129 = .ok (.aload_n 0, 1) := by decide +kernel
theorem dX12_parted_130 : decode cX12_parted 130 = .ok (.getfield 171, 3) := by decide +kernel
theorem dX12_parted_133 : decode cX12_parted 133 = .ok (.aload_n 0, 1) := by decide +kernel
theorem dX12_parted_134 : decode cX12_parted 134 = .ok (.getfield 503, 3) := by decide +kernel
theorem dX12_parted_137 : decode cX12_parted 137 = .ok (.iload 7, 2) := by decide +kernel
theorem dX12_parted_139 : decode cX12_parted 139 = .ok (.iconst 1, 1) := by decide +kernel
theorem dX12_parted_140 : decode cX12_parted 140 = .ok (.isub, 1) := by decide +kernel
theorem dX12_parted_141 : decode cX12_parted 141 = .ok (.iastore, 1) := by decide +kernel
theorem dX12_parted_142 : decode cX12_parted 142 = .ok (.aload_n 0, 1) := by decide +kernel
theorem dX12_parted_143 : decode cX12_parted 143 = .ok (.dup, 1) := by decide +kernel
theorem dX12_parted_144 : decode cX12_parted 144 = .ok (.getfield 503, 3) := by decide +kernel
theorem dX12_parted_147 : decode cX12_parted 147 = .ok (.iconst 1, 1) := by decide +kernel
theorem dX12_parted_148 : decode cX12_parted 148 = .ok (.iadd, 1) := by decide +kernel
theorem dX12_parted_149 : decode cX12_parted 149 = .ok (.putfield 503, 3) := by decide +kernel
theorem dX12_parted_152 : decode cX12_parted 152 = .ok (.lload 5, 2) := by decide +kernel
theorem dX12_parted_154 : decode cX12_parted 154 = .ok (.aload_n 0, 1) := by decide +kernel
theorem dX12_parted_155 : decode cX12_parted 155 = .ok (.iload_n 3, 1) := by decide +kernel
theorem dX12_parted_156 : decode cX12_parted 156 = .ok (.invokevirtual 500, 3) := by decide +kernel
theorem dX12_parted_159 : decode cX12_parted 159 = .ok (.ldc2_w 440, 3) := by decide +kernel
theorem dX12_parted_162 : decode cX12_parted 162 = .ok (.lxor, 1) := by decide +kernel
theorem dX12_parted_163 : decode cX12_parted 163 = .ok (.land, 1) := by decide +kernel
theorem dX12_parted_164 : decode cX12_parted 164 = .ok (.lstore 5, 2) := by decide +kernel
theorem dX12_parted_166 : decode cX12_parted 166 = .ok (.iconst 0, 1) := by decide +kernel
theorem dX12_parted_167 : decode cX12_parted 167 = .ok (.istore 7, 2) := by decide +kernel
theorem dX12_parted_169 : decode cX12_parted 169 = .ok (.goto 92, 3) := by decide +kernel
theorem dX12_parted_172 : decode cX12_parted 172 = .ok (.aload_n 0, 1) := by decide +kernel
theorem dX12_parted_173 : decode cX12_parted 173 = .ok (.getfield 503, 3) := by decide +kernel
theorem dX12_parted_176 : decode cX12_parted 176 = .ok (.ifCond .ne 5, 3) := by decide +kernel
theorem dX12_parted_179 : decode cX12_parted 179 = .ok (.iconst 0, 1) := by decide +kernel
theorem dX12_parted_180 : decode cX12_parted 180 = .ok (.ireturn, 1) := by decide +kernel
theorem dX12_parted_181 : decode cX12_parted 181 = .ok (.aload_n 0, 1) := by decide +kernel
theorem dX12_parted_182 : decode cX12_parted 182 = .ok (.dup, 1) := by decide +kernel
theorem dX12_parted_183 : decode cX12_parted 183 = .ok (.getfield 503, 3) := by decide +kernel
theorem dX12_parted_186 : decode cX12_parted 186 = .ok (.iconst 1, 1) := by decide +kernel
theorem dX12_parted_187 : decode cX12_parted 187 = .ok (.isub, 1) := by decide +kernel
theorem dX12_parted_188 : decode cX12_parted 188 = .ok (.putfield 503, 3) := by decide +kernel
theorem dX12_parted_191 : decode cX12_parted 191 = .ok (.aload_n 0, 1) := by decide +kernel
theorem dX12_parted_192 : decode cX12_parted 192 = .ok (.getfield 171, 3) := by decide +kernel
theorem dX12_parted_195 : decode cX12_parted 195 = .ok (.aload_n 0, 1) := by decide +kernel
theorem dX12_parted_196 : decode cX12_parted 196 = .ok (.getfield 503, 3) := by decide +kernel
theorem dX12_parted_199 : decode cX12_parted 199 = .ok (.iaload, 1) := by decide +kernel
theorem dX12_parted_200 : decode cX12_parted 200 = .ok (.iconst 1, 1) := by decide +kernel
theorem dX12_parted_201 : decode cX12_parted 201 = .ok (.iadd, 1) := by decide +kernel
theorem dX12_parted_202 : decode cX12_parted 202 = .ok (.istore 7, 2) := by decide +kernel
theorem dX12_parted_204 : decode cX12_parted 204 = .ok (.lload_n 1, 1) := by decide +kernel
theorem dX12_parted_205 : decode cX12_parted 205 = .ok (.lstore 5, 2) := by decide +kernel
theorem dX12_parted_207 : decode cX12_parted 207 = .ok (.iconst 0, 1) := by decide +kernel
theorem dX12_parted_208 : decode cX12_parted 208 = .ok (.istore 10, 2) := by decide +kernel
theorem dX12_parted_210 : decode cX12_parted 210 = .ok (.iload 10, 2) := by decide +kernel
theorem dX12_parted_212 : decode cX12_parted 212 = .ok (.aload_n 0, 1) := by decide +kernel
theorem dX12_parted_213 : decode cX12_parted 213 = .ok (.getfield 503, 3) := by decide +kernel
theorem dX12_parted_216 : decode cX12_parted 216 = .ok (.if_icmp .ge 45, 3) := by decide +kernel
theorem dX12_parted_219 : decode cX12_parted 219 = .ok (.aload_n 0, 1) := by decide +kernel
theorem dX12_parted_220 : decode cX12_parted 220 = .ok (.iload_n 3, 1) := by decide +kernel
theorem dX12_parted_221 : decode cX12_parted 221 = .ok (.aload_n 0, 1) := by decide +kernel
theorem dX12_parted_222 : decode cX12_parted 222 = .ok (.getfield 168, 3) := by decide +kernel
theorem dX12_parted_225 : decode cX12_parted 225 = .ok (.iload 10, 2) := by decide +kernel
theorem dX12_parted_227 : decode cX12_parted 227 = .ok (.iaload, 1) := by decide +kernel
theorem dX12_parted_228 : decode cX12_parted 228 = .ok (.aload_n 0, 1) := by decide +kernel
theorem dX12_parted_229 : decode cX12_parted 229 = .ok (.getfield 171, 3) := by decide +kernel
theorem dX12_parted_232 : decode cX12_parted 232 = .ok (.iload 10, 2) := by decide +kernel
theorem dX12_parted_234 : decode cX12_parted 234 = .ok (.iaload, 1) := by decide +kernel
theorem dX12_parted_235 : decode cX12_parted 235 = .ok (.lload 5, 2) := by decide +kernel
theorem dX12_parted_237 : decode cX12_parted 237 = .ok (.invokevirtual 496, 3) := by decide +kernel
theorem dX12_parted_240 : decode cX12_parted 240 = .ok (.pop, 1) := by decide +kernel
theorem dX12_parted_241 : decode cX12_parted 241 = .ok (.lload 5, 2) := by decide +kernel
theorem dX12_parted_243 : decode cX12_parted 243 = .ok (.aload_n 0, 1) := by decide +kernel
theorem dX12_parted_244 : decode cX12_parted 244 = .ok (.iload_n 3, 1) := by decide +kernel
theorem dX12_parted_245 : decode cX12_parted 245 = .ok (.invokevirtual 500, 3) := by decide +kernel
theorem dX12_parted_248 : decode cX12_parted 248 = .ok (.ldc2_w 440, 3) := by decide +kernel
theorem dX12_parted_251 : decode cX12_parted 251 = .ok (.lxor, 1) := by decide +kernel
theorem dX12_parted_252 : decode cX12_parted 252 = .ok (.land, 1) := by decide +kernel
theorem dX12_parted_253 : decode cX12_parted 253 = .ok (.lstore 5, 2) := by decide +kernel
theorem dX12_parted_255 : decode cX12_parted 255 = .ok (.iinc 10 1, 3) := by decide +kernel
theorem dX12_parted_258 : decode cX12_parted 258 = .ok (.goto (-48), 3) := by decide +kernel
theorem dX12_parted_261 : decode cX12_parted 261 = .ok (.goto (-221), 3) := by decide +kernel
theorem dX12_parted_264 : decode cX12_parted 264 = .ok (.iconst 1, 1) := by decide +kernel
theorem dX12_parted_265 : decode cX12_parted 265 = .ok (.ireturn, 1) := by decide +kernel
abbrev rm_f_X12_parted : Room := { frames := 2, cells := 0, slots := 0, locals := 55 }
def f_X12_parted_L58 (N : Nat) (K24 : (Int → Int → St → Option (Int × St))) (y17 : Int) (y18 : Int) (y19 : Int64) (y21 : Int) : Nat → Int → Int → St → Option (Int × St)
  | 0, _, _, _ => none
  | n9 + 1, x20, x22, t23 =>
    cmpI x20 (4 * y18) (if x20 < (4 * y18) then (cmpI x22 0 (if x22 = 0 then (lt1 (t23.1 200 85) fun v25 =>
    lt1 (pI t23 200 85 (v25 + 1)) fun t26 =>
    lt1 (t26.1 200 85) fun v27 =>
    cmpI v27 400 (if 400 < v27 then (some ((-1), t26))
    else (bdI (f_X12_fits N y17 y21 x20 y19 t26) fun v29 t28 =>
    f_X12_parted_L58 N K24 y17 y18 y19 y21 n9 (x20 + 1) v29 t28)))
    else (K24 x20 x22 t23)))
    else (K24 x20 x22 t23))
def f_X12_parted_L210 (N : Nat) (K49 : (Int64 → St → Option (Int × St))) (y43 : Int) : Nat → Int64 → Int → St → Option (Int × St)
  | 0, _, _, _ => none
  | n9 + 1, x45, x47, t48 =>
    lt1 (t48.1 200 88) fun v50 =>
    cmpI x47 v50 (if x47 < v50 then (ixI x47 64 (lt1 (t48.1 86 x47.toNat) fun v51 =>
    ixI x47 64 (lt1 (t48.1 87 x47.toNat) fun v52 =>
    bdI (f_X12_fits N y43 v51 v52 x45 t48) fun v54 t53 =>
    bdL (f_X12_ofCopy N y43 t53) fun v56 t55 =>
    f_X12_parted_L210 N K49 y43 n9 (x45 &&& (v56 ^^^ (-1 : Int64))) (x47 + 1) t55)))
    else (K49 x45 t48))
def f_X12_parted_L40 (N : Nat) (K13 : (St → Option (Int × St))) (y7 : Int64) (y8 : Int) (y9 : Int) : Nat → Int64 → Int → St → Option (Int × St)
  | 0, _, _, _ => none
  | n9 + 1, x10, x11, t12 =>
    (if x10 = (0 : Int64) then (K13 t12)
    else (bdI (f_X12_firstOf N x10 t12) fun v15 t14 =>
    f_X12_parted_L58 N (fun (k30 : Int) (k31 : Int) (t32 : St) => jn1 (fun (j33 : Int64) (j34 : Int) (t35 : St) => f_X12_parted_L40 N K13 y7 y8 y9 n9 j33 j34 t35) fun J36 =>
    cmpI k31 0 (if k31 = 0 then (lt1 (t32.1 200 88) fun v37 =>
    cmpI v37 0 (if v37 = 0 then (some (0, t32))
    else (lt1 (t32.1 200 88) fun v38 =>
    lt1 (pI t32 200 88 (v38 - 1)) fun t39 =>
    lt1 (t39.1 200 88) fun v40 =>
    ixI v40 64 (lt1 (t39.1 87 v40.toNat) fun v41 =>
    f_X12_parted_L210 N (fun (k57 : Int64) (t58 : St) => J36 k57 (v41 + 1) t58) y8 N y7 0 t39))))
    else (lt1 (t32.1 200 88) fun v59 =>
    ixI v59 64 (lt1 (pI t32 86 v59.toNat v15) fun t60 =>
    lt1 (t60.1 200 88) fun v61 =>
    ixI v61 64 (lt1 (pI t60 87 v61.toNat (k30 - 1)) fun t62 =>
    lt1 (t62.1 200 88) fun v63 =>
    lt1 (pI t62 200 88 (v63 + 1)) fun t64 =>
    bdL (f_X12_ofCopy N y8 t64) fun v66 t65 =>
    J36 (x10 &&& (v66 ^^^ (-1 : Int64))) 0 t65))))) y8 y9 x10 v15 N x11 0 t14))
def f_X12_parted (N : Nat) (a0 : Int64) (a1 : Int) (t : St) : Option (Int × St) :=
    lt1 (pI t 200 88 0) fun t1 =>
    lt1 (pI t1 200 85 0) fun t2 =>
    ixI a1 40 (lt1 (t2.1 18 a1.toNat) fun v3 =>
    bdI (f_X12_sizeOf N a0 t2) fun v5 t4 =>
    dvI v5 v3 (
    cmpI (v5 % v3) 0 (if (v5 % v3) = 0 then (bdV (f_X12_sort N t4) fun t6 =>
    f_X12_parted_L40 N (fun (t67 : St) => some (1, t67)) a0 a1 v3 N a0 0 t6)
    else (some (0, t4)))))
set_option maxHeartbeats 4000000 in
set_option maxRecDepth 100000 in
theorem t_f_X12_parted_L58 {p : Program} {l : Launch} {e : Env} {s : State} {m : MethodId} {args : Array Value} {below : List Frame} {meth : Method} {c : Code} {E : cE} {A : Nat → Prop} {r : Nat → Nat} {mc ms : Nat} {z : Int × St} {N : Nat} {K24 : (Int → Int → St → Option (Int × St))} {y16 : Int64} {y17 : Int} {y18 : Int} {y19 : Int64} {y21 : Int} (X : gX p s m meth c cX12_parted 11 (some .int) yX12_parted args E A) (hK24 : ∀ (q7 : Int) (q9 : Int) (t9 : St), K24 q7 q9 t9 = some z → gP p l e rm_f_X12_parted s m args below meth c E A 11 (MQ below ((gqI E (gW E r shM) z) A) args s mc ms A) (gW E r shM) 113 [(0, .ref (r 200)), (1, .long y16), (3, iv y17), (4, iv y18), (5, .long y19), (7, iv q7), (8, iv y21), (9, iv q9)] [] t9) : ∀ (n9 : Nat) (x20 : Int) (x22 : Int) (t23 : St), f_X12_parted_L58 N K24 y17 y18 y19 y21 n9 x20 x22 t23 = some z → gP p l e rm_f_X12_parted s m args below meth c E A 11 (MQ below ((gqI E (gW E r shM) z) A) args s mc ms A) (gW E r shM) 58 [(0, .ref (r 200)), (1, .long y16), (3, iv y17), (4, iv y18), (5, .long y19), (7, iv x20), (8, iv y21), (9, iv x22)] [] t23 := by
  intro n9
  induction n9 with
  | zero => intro x20 x22 t23 h; cases h
  | succ n9 ih =>
    intro x20 x22 t23 h
    unfold f_X12_parted_L58 at h
    refine g_iload X dX12_parted_58 5 rfl ?_
    refine g_iconst X dX12_parted_60 ?_
    refine g_iload X dX12_parted_61 3 rfl ?_
    refine g_imul X dX12_parted_63 ?_
    refine g_icmp_ge (tgt := 113) X dX12_parted_64 (by decide) h (fun h => ?_) (fun h => ?_)
    · exact g_sub (lv' := [(0, .ref (r 200)), (1, .long y16), (3, iv y17), (4, iv y18), (5, .long y19), (7, iv x20), (8, iv y21), (9, iv x22)]) [0, 1, 2, 3, 4, 5, 6, 7] rfl (hK24 x20 x22 t23 h)
    · refine g_iload X dX12_parted_67 7 rfl ?_
      refine g_if_ne (tgt := 113) X dX12_parted_69 (by decide) h (fun h => ?_) (fun h => ?_)
      · exact g_sub (lv' := [(0, .ref (r 200)), (1, .long y16), (3, iv y17), (4, iv y18), (5, .long y19), (7, iv x20), (8, iv y21), (9, iv x22)]) [0, 1, 2, 3, 4, 5, 6, 7] rfl (hK24 x20 x22 t23 h)
      · refine g_aload_n X dX12_parted_72 0 rfl ?_
        refine g_dup X rfl dX12_parted_73 ?_
        refine g_getI X fM_85 rfl dX12_parted_74 h (fun v25 h => ?_)
        refine g_iconst X dX12_parted_77 ?_
        refine g_iadd X dX12_parted_78 ?_
        refine g_putI X fM_85w rfl dX12_parted_79 h (fun t26 h => ?_)
        refine g_aload_n X dX12_parted_82 0 rfl ?_
        refine g_getI X fM_85 rfl dX12_parted_83 h (fun v27 h => ?_)
        refine g_sipush X dX12_parted_86 (by decide) ?_
        refine g_icmp_le (tgt := 94) X dX12_parted_89 (by decide) h (fun h => ?_) (fun h => ?_)
        · refine g_aload_n X dX12_parted_94 0 rfl ?_
          refine g_iload_n X dX12_parted_95 2 rfl ?_
          refine g_iload X dX12_parted_96 6 rfl ?_
          refine g_iload X dX12_parted_98 5 rfl ?_
          refine g_lload X dX12_parted_100 4 rfl ?_
          refine g_callI (rest := []) X (fun u9 h9 => cp_X12_fits l E r N y17 y21 x20 y19 t26 u9 h9) yy_X12_fits yi_X12_fits wdM_RX12_496 0 12 (gW_at oM) rfl rfl rfl (Nat.le_of_ble_eq_true rfl) dX12_parted_102 ⟨by decide, by decide⟩ ⟨rfl, rfl⟩ h (fun v29 t28 h => ?_)
          refine g_istore (lv' := [(9, iv v29), (0, .ref (r 200)), (1, .long y16), (3, iv y17), (4, iv y18), (5, .long y19), (7, iv x20), (8, iv y21)]) X dX12_parted_105 (by decide) rfl ?_
          refine g_iinc (lv' := [(7, iv (x20 + 1)), (9, iv v29), (0, .ref (r 200)), (1, .long y16), (3, iv y17), (4, iv y18), (5, .long y19), (8, iv y21)]) X dX12_parted_107 (k := 6) rfl (by decide) rfl ?_
          refine g_goto (tgt := 58) X dX12_parted_110 (by decide) ?_
          exact g_sub (lv' := [(0, .ref (r 200)), (1, .long y16), (3, iv y17), (4, iv y18), (5, .long y19), (7, iv (x20 + 1)), (8, iv y21), (9, iv v29)]) [2, 3, 4, 5, 6, 0, 7, 1] rfl (ih (x20 + 1) v29 t28 h)
        · refine g_iconst X dX12_parted_92 ?_
          exact g_iret X h dX12_parted_93
set_option maxHeartbeats 4000000 in
set_option maxRecDepth 100000 in
theorem t_f_X12_parted_L210 {p : Program} {l : Launch} {e : Env} {s : State} {m : MethodId} {args : Array Value} {below : List Frame} {meth : Method} {c : Code} {E : cE} {A : Nat → Prop} {r : Nat → Nat} {mc ms : Nat} {z : Int × St} {N : Nat} {K49 : (Int64 → St → Option (Int × St))} {y42 : Int64} {y43 : Int} {y44 : Int} {y46 : Int} (X : gX p s m meth c cX12_parted 11 (some .int) yX12_parted args E A) (hK49 : ∀ (q5 : Int64) (t9 : St), K49 q5 t9 = some z → gP p l e rm_f_X12_parted s m args below meth c E A 11 (MQ below ((gqI E (gW E r shM) z) A) args s mc ms A) (gW E r shM) 261 [(0, .ref (r 200)), (1, .long y42), (3, iv y43), (4, iv y44), (5, .long q5), (7, iv y46)] [] t9) : ∀ (n9 : Nat) (x45 : Int64) (x47 : Int) (t48 : St), f_X12_parted_L210 N K49 y43 n9 x45 x47 t48 = some z → gP p l e rm_f_X12_parted s m args below meth c E A 11 (MQ below ((gqI E (gW E r shM) z) A) args s mc ms A) (gW E r shM) 210 [(0, .ref (r 200)), (1, .long y42), (3, iv y43), (4, iv y44), (5, .long x45), (7, iv y46), (10, iv x47)] [] t48 := by
  intro n9
  induction n9 with
  | zero => intro x45 x47 t48 h; cases h
  | succ n9 ih =>
    intro x45 x47 t48 h
    unfold f_X12_parted_L210 at h
    refine g_iload X dX12_parted_210 6 rfl ?_
    refine g_aload_n X dX12_parted_212 0 rfl ?_
    refine g_getI X fM_88 rfl dX12_parted_213 h (fun v50 h => ?_)
    refine g_icmp_ge (tgt := 261) X dX12_parted_216 (by decide) h (fun h => ?_) (fun h => ?_)
    · exact g_sub (lv' := [(0, .ref (r 200)), (1, .long y42), (3, iv y43), (4, iv y44), (5, .long x45), (7, iv y46)]) [0, 1, 2, 3, 4, 5] rfl (hK49 x45 t48 h)
    · refine g_aload_n X dX12_parted_219 0 rfl ?_
      refine g_iload_n X dX12_parted_220 2 rfl ?_
      refine g_aload_n X dX12_parted_221 0 rfl ?_
      refine g_getR X fM_86 rfl dX12_parted_222 ?_
      refine g_iload X dX12_parted_225 6 rfl ?_
      refine g_iald X aM_86 dX12_parted_227 h (fun v51 h => ?_)
      refine g_aload_n X dX12_parted_228 0 rfl ?_
      refine g_getR X fM_87 rfl dX12_parted_229 ?_
      refine g_iload X dX12_parted_232 6 rfl ?_
      refine g_iald X aM_87 dX12_parted_234 h (fun v52 h => ?_)
      refine g_lload X dX12_parted_235 4 rfl ?_
      refine g_callI (rest := []) X (fun u9 h9 => cp_X12_fits l E r N y43 v51 v52 x45 t48 u9 h9) yy_X12_fits yi_X12_fits wdM_RX12_496 0 12 (gW_at oM) rfl rfl rfl (Nat.le_of_ble_eq_true rfl) dX12_parted_237 ⟨by decide, by decide⟩ ⟨rfl, rfl⟩ h (fun v54 t53 h => ?_)
      refine g_pop X rfl dX12_parted_240 ?_
      refine g_lload X dX12_parted_241 4 rfl ?_
      refine g_aload_n X dX12_parted_243 0 rfl ?_
      refine g_iload_n X dX12_parted_244 2 rfl ?_
      refine g_callL (rest := [.long x45]) X (fun u9 h9 => cp_X12_ofCopy l E r N y43 t53 u9 h9) yy_X12_ofCopy yi_X12_ofCopy wdM_RX12_500 0 12 (gW_at oM) rfl rfl rfl (Nat.le_of_ble_eq_true rfl) dX12_parted_245 ⟨by decide, by decide⟩ ⟨rfl, rfl⟩ h (fun v56 t55 h => ?_)
      refine g_ldc2 X rfl wdL_RX12_440 dX12_parted_248 ?_
      refine g_lxor X dX12_parted_251 ?_
      refine g_land X dX12_parted_252 ?_
      refine g_lstore (lv' := [(5, .long (x45 &&& (v56 ^^^ (-1 : Int64)))), (0, .ref (r 200)), (1, .long y42), (3, iv y43), (4, iv y44), (7, iv y46), (10, iv x47)]) X dX12_parted_253 (by decide) rfl ?_
      refine g_iinc (lv' := [(10, iv (x47 + 1)), (5, .long (x45 &&& (v56 ^^^ (-1 : Int64)))), (0, .ref (r 200)), (1, .long y42), (3, iv y43), (4, iv y44), (7, iv y46)]) X dX12_parted_255 (k := 6) rfl (by decide) rfl ?_
      refine g_goto (tgt := 210) X dX12_parted_258 (by decide) ?_
      exact g_sub (lv' := [(0, .ref (r 200)), (1, .long y42), (3, iv y43), (4, iv y44), (5, .long (x45 &&& (v56 ^^^ (-1 : Int64)))), (7, iv y46), (10, iv (x47 + 1))]) [2, 3, 4, 5, 1, 6, 0] rfl (ih (x45 &&& (v56 ^^^ (-1 : Int64))) (x47 + 1) t55 h)
set_option maxHeartbeats 4000000 in
set_option maxRecDepth 100000 in
theorem t_f_X12_parted_L40 {p : Program} {l : Launch} {e : Env} {s : State} {m : MethodId} {args : Array Value} {below : List Frame} {meth : Method} {c : Code} {E : cE} {A : Nat → Prop} {r : Nat → Nat} {mc ms : Nat} {z : Int × St} {N : Nat} {K13 : (St → Option (Int × St))} {y7 : Int64} {y8 : Int} {y9 : Int} (X : gX p s m meth c cX12_parted 11 (some .int) yX12_parted args E A) (hK13 : ∀ (t9 : St), K13 t9 = some z → gP p l e rm_f_X12_parted s m args below meth c E A 11 (MQ below ((gqI E (gW E r shM) z) A) args s mc ms A) (gW E r shM) 264 [] [] t9) : ∀ (n9 : Nat) (x10 : Int64) (x11 : Int) (t12 : St), f_X12_parted_L40 N K13 y7 y8 y9 n9 x10 x11 t12 = some z → gP p l e rm_f_X12_parted s m args below meth c E A 11 (MQ below ((gqI E (gW E r shM) z) A) args s mc ms A) (gW E r shM) 40 [(0, .ref (r 200)), (1, .long y7), (3, iv y8), (4, iv y9), (5, .long x10), (7, iv x11)] [] t12 := by
  intro n9
  induction n9 with
  | zero => intro x10 x11 t12 h; cases h
  | succ n9 ih =>
    intro x10 x11 t12 h
    unfold f_X12_parted_L40 at h
    refine g_lload X dX12_parted_40 4 rfl ?_
    refine g_lconst (v := 0) X dX12_parted_42 (by decide) ?_
    refine g_lcmp_eq (tgt := 264) X dX12_parted_43 dX12_parted_44 (by decide) h (fun h => ?_) (fun h => ?_)
    · exact g_sub (lv' := []) [] rfl (hK13 t12 h)
    · refine g_aload_n X dX12_parted_47 0 rfl ?_
      refine g_lload X dX12_parted_48 4 rfl ?_
      refine g_callI (rest := []) X (fun u9 h9 => cp_X12_firstOf l E r N x10 t12 u9 h9) yy_X12_firstOf yi_X12_firstOf wdM_RX12_513 0 12 (gW_at oM) rfl rfl rfl (Nat.le_of_ble_eq_true rfl) dX12_parted_50 ⟨by decide, by decide⟩ ⟨rfl, rfl⟩ h (fun v15 t14 h => ?_)
      refine g_istore (lv' := [(8, iv v15), (0, .ref (r 200)), (1, .long y7), (3, iv y8), (4, iv y9), (5, .long x10), (7, iv x11)]) X dX12_parted_53 (by decide) rfl ?_
      refine g_iconst X dX12_parted_55 ?_
      refine g_istore (lv' := [(9, iv 0), (8, iv v15), (0, .ref (r 200)), (1, .long y7), (3, iv y8), (4, iv y9), (5, .long x10), (7, iv x11)]) X dX12_parted_56 (by decide) rfl ?_
      refine g_sub (lv' := [(0, .ref (r 200)), (1, .long y7), (3, iv y8), (4, iv y9), (5, .long x10), (7, iv x11), (8, iv v15), (9, iv 0)]) [2, 3, 4, 5, 6, 7, 1, 0] rfl (t_f_X12_parted_L58 X (fun k30 k31 t32 h => ?_) N x11 0 t14 h)
      · refine g_iload X dX12_parted_113 7 rfl ?_
        refine g_join (J := fun jj => ∀ (j33 : Int64) (j34 : Int) (t35 : St), jj j33 j34 t35 = some z → gP p l e rm_f_X12_parted s m args below meth c E A 11 (MQ below ((gqI E (gW E r shM) z) A) args s mc ms A) (gW E r shM) 261 [(0, .ref (r 200)), (1, .long y7), (3, iv y8), (4, iv y9), (5, .long j33), (7, iv j34)] [] t35) h (fun j33 j34 t35 h => ?_) (fun J36 hJ36 h => ?_)
        · refine g_goto (tgt := 40) X dX12_parted_261 (by decide) ?_
          exact g_sub (lv' := [(0, .ref (r 200)), (1, .long y7), (3, iv y8), (4, iv y9), (5, .long j33), (7, iv j34)]) [0, 1, 2, 3, 4, 5] rfl (ih j33 j34 t35 h)
        refine g_if_eq (tgt := 172) X dX12_parted_115 (by decide) h (fun h => ?_) (fun h => ?_)
        · refine g_aload_n X dX12_parted_172 0 rfl ?_
          refine g_getI X fM_88 rfl dX12_parted_173 h (fun v37 h => ?_)
          refine g_if_ne (tgt := 181) X dX12_parted_176 (by decide) h (fun h => ?_) (fun h => ?_)
          · refine g_aload_n X dX12_parted_181 0 rfl ?_
            refine g_dup X rfl dX12_parted_182 ?_
            refine g_getI X fM_88 rfl dX12_parted_183 h (fun v38 h => ?_)
            refine g_iconst X dX12_parted_186 ?_
            refine g_isub X dX12_parted_187 ?_
            refine g_putI X fM_88w rfl dX12_parted_188 h (fun t39 h => ?_)
            refine g_aload_n X dX12_parted_191 0 rfl ?_
            refine g_getR X fM_87 rfl dX12_parted_192 ?_
            refine g_aload_n X dX12_parted_195 0 rfl ?_
            refine g_getI X fM_88 rfl dX12_parted_196 h (fun v40 h => ?_)
            refine g_iald X aM_87 dX12_parted_199 h (fun v41 h => ?_)
            refine g_iconst X dX12_parted_200 ?_
            refine g_iadd X dX12_parted_201 ?_
            refine g_istore (lv' := [(7, iv (v41 + 1)), (0, .ref (r 200)), (1, .long y7), (3, iv y8), (4, iv y9), (5, .long x10), (8, iv v15), (9, iv k31)]) X dX12_parted_202 (by decide) rfl ?_
            refine g_lload_n X dX12_parted_204 2 rfl ?_
            refine g_lstore (lv' := [(5, .long y7), (7, iv (v41 + 1)), (0, .ref (r 200)), (1, .long y7), (3, iv y8), (4, iv y9), (8, iv v15), (9, iv k31)]) X dX12_parted_205 (by decide) rfl ?_
            refine g_iconst X dX12_parted_207 ?_
            refine g_istore (lv' := [(10, iv 0), (5, .long y7), (7, iv (v41 + 1)), (0, .ref (r 200)), (1, .long y7), (3, iv y8), (4, iv y9), (8, iv v15), (9, iv k31)]) X dX12_parted_208 (by decide) rfl ?_
            refine g_sub (lv' := [(0, .ref (r 200)), (1, .long y7), (3, iv y8), (4, iv y9), (5, .long y7), (7, iv (v41 + 1)), (10, iv 0)]) [3, 4, 5, 6, 1, 2, 0] rfl (t_f_X12_parted_L210 X (fun k57 t58 h => ?_) N y7 0 t39 h)
            · exact g_sub (lv' := [(0, .ref (r 200)), (1, .long y7), (3, iv y8), (4, iv y9), (5, .long k57), (7, iv (v41 + 1))]) [0, 1, 2, 3, 4, 5] rfl (hJ36 k57 (v41 + 1) t58 h)
          · refine g_iconst X dX12_parted_179 ?_
            exact g_iret X h dX12_parted_180
        · refine g_aload_n X dX12_parted_118 0 rfl ?_
          refine g_getR X fM_86 rfl dX12_parted_119 ?_
          refine g_aload_n X dX12_parted_122 0 rfl ?_
          refine g_getI X fM_88 rfl dX12_parted_123 h (fun v59 h => ?_)
          refine g_iload X dX12_parted_126 6 rfl ?_
          refine g_iast X aM_86 dX12_parted_128 h (fun t60 h => ?_)
          refine g_aload_n X dX12_parted_129 0 rfl ?_
          refine g_getR X fM_87 rfl dX12_parted_130 ?_
          refine g_aload_n X dX12_parted_133 0 rfl ?_
          refine g_getI X fM_88 rfl dX12_parted_134 h (fun v61 h => ?_)
          refine g_iload X dX12_parted_137 5 rfl ?_
          refine g_iconst X dX12_parted_139 ?_
          refine g_isub X dX12_parted_140 ?_
          refine g_iast X aM_87 dX12_parted_141 h (fun t62 h => ?_)
          refine g_aload_n X dX12_parted_142 0 rfl ?_
          refine g_dup X rfl dX12_parted_143 ?_
          refine g_getI X fM_88 rfl dX12_parted_144 h (fun v63 h => ?_)
          refine g_iconst X dX12_parted_147 ?_
          refine g_iadd X dX12_parted_148 ?_
          refine g_putI X fM_88w rfl dX12_parted_149 h (fun t64 h => ?_)
          refine g_lload X dX12_parted_152 4 rfl ?_
          refine g_aload_n X dX12_parted_154 0 rfl ?_
          refine g_iload_n X dX12_parted_155 2 rfl ?_
          refine g_callL (rest := [.long x10]) X (fun u9 h9 => cp_X12_ofCopy l E r N y8 t64 u9 h9) yy_X12_ofCopy yi_X12_ofCopy wdM_RX12_500 0 12 (gW_at oM) rfl rfl rfl (Nat.le_of_ble_eq_true rfl) dX12_parted_156 ⟨by decide, by decide⟩ ⟨rfl, rfl⟩ h (fun v66 t65 h => ?_)
          refine g_ldc2 X rfl wdL_RX12_440 dX12_parted_159 ?_
          refine g_lxor X dX12_parted_162 ?_
          refine g_land X dX12_parted_163 ?_
          refine g_lstore (lv' := [(5, .long (x10 &&& (v66 ^^^ (-1 : Int64)))), (0, .ref (r 200)), (1, .long y7), (3, iv y8), (4, iv y9), (7, iv k30), (8, iv v15), (9, iv k31)]) X dX12_parted_164 (by decide) rfl ?_
          refine g_iconst X dX12_parted_166 ?_
          refine g_istore (lv' := [(7, iv 0), (5, .long (x10 &&& (v66 ^^^ (-1 : Int64)))), (0, .ref (r 200)), (1, .long y7), (3, iv y8), (4, iv y9), (8, iv v15), (9, iv k31)]) X dX12_parted_167 (by decide) rfl ?_
          refine g_goto (tgt := 261) X dX12_parted_169 (by decide) ?_
          exact g_sub (lv' := [(0, .ref (r 200)), (1, .long y7), (3, iv y8), (4, iv y9), (5, .long (x10 &&& (v66 ^^^ (-1 : Int64)))), (7, iv 0)]) [2, 3, 4, 5, 1, 0] rfl (hJ36 (x10 &&& (v66 ^^^ (-1 : Int64))) 0 t65 h)
set_option maxHeartbeats 4000000 in
set_option maxRecDepth 100000 in
theorem b_f_X12_parted {p : Program} {l : Launch} {e : Env} {s : State} {m : MethodId} {args : Array Value} {below : List Frame} {meth : Method} {c : Code} {E : cE} {A : Nat → Prop} {r : Nat → Nat} {mc ms : Nat} {z : Int × St} {N : Nat} {a0 : Int64} {a1 : Int} {t : St} (X : gX p s m meth c cX12_parted 11 (some .int) yX12_parted args E A) (h : f_X12_parted N a0 a1 t = some z) : gP p l e rm_f_X12_parted s m args below meth c E A 11 (MQ below ((gqI E (gW E r shM) z) A) args s mc ms A) (gW E r shM) 0 [(0, .ref (r 200)), (1, .long a0), (3, iv a1)] [] t := by
  unfold f_X12_parted at h
  refine g_aload_n X dX12_parted_0 0 rfl ?_
  refine g_iconst X dX12_parted_1 ?_
  refine g_putI X fM_88w rfl dX12_parted_2 h (fun t1 h => ?_)
  refine g_aload_n X dX12_parted_5 0 rfl ?_
  refine g_iconst X dX12_parted_6 ?_
  refine g_putI X fM_85w rfl dX12_parted_7 h (fun t2 h => ?_)
  refine g_aload_n X dX12_parted_10 0 rfl ?_
  refine g_getR X fM_18 rfl dX12_parted_11 ?_
  refine g_iload_n X dX12_parted_14 2 rfl ?_
  refine g_iald X aM_18 dX12_parted_15 h (fun v3 h => ?_)
  refine g_istore (lv' := [(4, iv v3), (0, .ref (r 200)), (1, .long a0), (3, iv a1)]) X dX12_parted_16 (by decide) rfl ?_
  refine g_lload_n X dX12_parted_18 2 rfl ?_
  refine g_callsI (rest := []) X (fun u9 h9 => cp_X12_sizeOf l E r N a0 t2 u9 h9) yy_X12_sizeOf wdT_X12_sizeOf wdM_RX12_509 rfl rfl (Nat.le_of_ble_eq_true rfl) dX12_parted_19 ⟨by decide, by decide⟩ ⟨rfl, rfl⟩ h (fun v5 t4 h => ?_)
  refine g_iload X dX12_parted_22 0 rfl ?_
  refine g_irem X dX12_parted_24 h (fun h => ?_)
  refine g_if_eq (tgt := 30) X dX12_parted_25 (by decide) h (fun h => ?_) (fun h => ?_)
  · refine g_aload_n X dX12_parted_30 1 rfl ?_
    refine g_callV (rest := []) X (fun u9 h9 => cp_X12_sort l E r N t4 u9 h9) yy_X12_sort yi_X12_sort wdM_RX12_493 0 12 (gW_at oM) rfl rfl rfl (Nat.le_of_ble_eq_true rfl) dX12_parted_31 ⟨by decide, by decide⟩ ⟨rfl, rfl⟩ h (fun t6 h => ?_)
    refine g_lload_n X dX12_parted_34 2 rfl ?_
    refine g_lstore (lv' := [(5, .long a0), (4, iv v3), (0, .ref (r 200)), (1, .long a0), (3, iv a1)]) X dX12_parted_35 (by decide) rfl ?_
    refine g_iconst X dX12_parted_37 ?_
    refine g_istore (lv' := [(7, iv 0), (5, .long a0), (4, iv v3), (0, .ref (r 200)), (1, .long a0), (3, iv a1)]) X dX12_parted_38 (by decide) rfl ?_
    refine g_sub (lv' := [(0, .ref (r 200)), (1, .long a0), (3, iv a1), (4, iv v3), (5, .long a0), (7, iv 0)]) [3, 4, 5, 2, 1, 0] rfl (t_f_X12_parted_L40 X (fun t67 h => ?_) N a0 0 t6 h)
    · refine g_iconst X dX12_parted_264 ?_
      exact g_iret X h dX12_parted_265
  · refine g_iconst X dX12_parted_28 ?_
    exact g_iret X h dX12_parted_29
set_option maxHeartbeats 4000000 in
set_option maxRecDepth 100000 in
theorem cp_X12_parted (l : Launch) (E : cE) (r : Nat → Nat) (N : Nat) (a0 : Int64) (a1 : Int) (t : St) (z : Int × St) (h : f_X12_parted N a0 a1 t = some z) : cM l E yX12_parted cX12_parted 11 (some .int) rm_f_X12_parted [.ref (r 200), .long a0, iv a1] (gW E r shM t) (gqI E (gW E r shM) z) := by
  refine g_of (w := gW E r shM) (by decide) (Nat.le_of_ble_eq_true rfl) ?_
  intro p e s m below meth c A X
  exact g_sub (lv' := [(0, .ref (r 200)), (1, .long a0), (3, iv a1)]) [0, 1, 2] rfl (b_f_X12_parted X h)
theorem yy_X12_parted : cY yX12_parted cX12_parted 11 (some .int) 2 := ⟨wdK_X12_parted, wdZ_RX12, by decide +kernel⟩
theorem yi_X12_parted : cYi yX12_parted := ⟨wdN_X12_parted, wdS_X12_parted⟩
theorem dX12_fails_0 : decode cX12_fails 0 = .ok (.aload_n 0, 1) := by decide +kernel
theorem dX12_fails_1 : decode cX12_fails 1 = .ok (.iload_n 1, 1) := by decide +kernel
theorem dX12_fails_2 : decode cX12_fails 2 = .ok (.putfield 533, 3) := by decide +kernel
theorem dX12_fails_5 : decode cX12_fails 5 = .ok (.aload_n 0, 1) := by decide +kernel
theorem dX12_fails_6 : decode cX12_fails 6 = .ok (.iload_n 2, 1) := by decide +kernel
theorem dX12_fails_7 : decode cX12_fails 7 = .ok (.putfield 536, 3) := by decide +kernel
theorem dX12_fails_10 : decode cX12_fails 10 = .ok (.aload_n 0, 1) := by decide +kernel
theorem dX12_fails_11 : decode cX12_fails 11 = .ok (.iload_n 3, 1) := by decide +kernel
theorem dX12_fails_12 : decode cX12_fails 12 = .ok (.putfield 539, 3) := by decide +kernel
theorem dX12_fails_15 : decode cX12_fails 15 = .ok (.iconst 0, 1) := by decide +kernel
theorem dX12_fails_16 : decode cX12_fails 16 = .ok (.ireturn, 1) := by decide +kernel
abbrev rm_f_X12_fails : Room := { frames := 0, cells := 0, slots := 0, locals := 0 }
def f_X12_fails (N : Nat) (a0 : Int) (a1 : Int) (a2 : Int) (t : St) : Option (Int × St) :=
    lt1 (pI t 200 70 a0) fun t1 =>
    lt1 (pI t1 200 71 a1) fun t2 =>
    lt1 (pI t2 200 72 a2) fun t3 =>
    boI 0 (some (0, t3))
set_option maxHeartbeats 4000000 in
set_option maxRecDepth 100000 in
theorem b_f_X12_fails {p : Program} {l : Launch} {e : Env} {s : State} {m : MethodId} {args : Array Value} {below : List Frame} {meth : Method} {c : Code} {E : cE} {A : Nat → Prop} {r : Nat → Nat} {mc ms : Nat} {z : Int × St} {N : Nat} {a0 : Int} {a1 : Int} {a2 : Int} {t : St} (X : gX p s m meth c cX12_fails 4 (some .boolean) yX12_fails args E A) (h : f_X12_fails N a0 a1 a2 t = some z) : gP p l e rm_f_X12_fails s m args below meth c E A 4 (MQ below ((gqI E (gW E r shM) z) A) args s mc ms A) (gW E r shM) 0 [(0, .ref (r 200)), (1, iv a0), (2, iv a1), (3, iv a2)] [] t := by
  unfold f_X12_fails at h
  refine g_aload_n X dX12_fails_0 0 rfl ?_
  refine g_iload_n X dX12_fails_1 1 rfl ?_
  refine g_putI X fM_70w rfl dX12_fails_2 h (fun t1 h => ?_)
  refine g_aload_n X dX12_fails_5 0 rfl ?_
  refine g_iload_n X dX12_fails_6 2 rfl ?_
  refine g_putI X fM_71w rfl dX12_fails_7 h (fun t2 h => ?_)
  refine g_aload_n X dX12_fails_10 0 rfl ?_
  refine g_iload_n X dX12_fails_11 3 rfl ?_
  refine g_putI X fM_72w rfl dX12_fails_12 h (fun t3 h => ?_)
  refine g_iconst X dX12_fails_15 ?_
  exact g_zret X h dX12_fails_16
set_option maxHeartbeats 4000000 in
set_option maxRecDepth 100000 in
theorem cp_X12_fails (l : Launch) (E : cE) (r : Nat → Nat) (N : Nat) (a0 : Int) (a1 : Int) (a2 : Int) (t : St) (z : Int × St) (h : f_X12_fails N a0 a1 a2 t = some z) : cM l E yX12_fails cX12_fails 4 (some .boolean) rm_f_X12_fails [.ref (r 200), iv a0, iv a1, iv a2] (gW E r shM t) (gqI E (gW E r shM) z) := by
  refine g_of (w := gW E r shM) (by decide) (Nat.le_of_ble_eq_true rfl) ?_
  intro p e s m below meth c A X
  exact g_sub (lv' := [(0, .ref (r 200)), (1, iv a0), (2, iv a1), (3, iv a2)]) [0, 1, 2, 3] rfl (b_f_X12_fails X h)
theorem yy_X12_fails : cY yX12_fails cX12_fails 4 (some .boolean) 3 := ⟨wdK_X12_fails, wdZ_RX12, by decide +kernel⟩
theorem yi_X12_fails : cYi yX12_fails := ⟨wdN_X12_fails, wdS_X12_fails⟩
theorem dX12_leastOf_0 : decode cX12_leastOf 0 = .ok (.iconst 0, 1) := by decide +kernel
theorem dX12_leastOf_1 : decode cX12_leastOf 1 = .ok (.istore_n 2, 1) := by decide +kernel
theorem dX12_leastOf_2 : decode cX12_leastOf 2 = .ok (.lload_n 0, 1) := by decide +kernel
theorem dX12_leastOf_3 : decode cX12_leastOf 3 = .ok (.iload_n 2, 1) := by decide +kernel
theorem dX12_leastOf_4 : decode cX12_leastOf 4 = .ok (.invokestatic 446, 3) := by decide +kernel
theorem dX12_leastOf_7 : decode cX12_leastOf 7 = .ok (.ifCond .ne 9, 3) := by decide +kernel
theorem dX12_leastOf_10 : decode cX12_leastOf 10 = .ok (.iinc 2 1, 3) := by decide +kernel
theorem dX12_leastOf_13 : decode cX12_leastOf 13 = .ok (.goto (-11), 3) := by decide +kernel
theorem dX12_leastOf_16 : decode cX12_leastOf 16 = .ok (.iload_n 2, 1) := by decide +kernel
theorem dX12_leastOf_17 : decode cX12_leastOf 17 = .ok (.ireturn, 1) := by decide +kernel
abbrev rm_f_X12_leastOf : Room := { frames := 1, cells := 0, slots := 0, locals := 22 }
def f_X12_leastOf_L2 (N : Nat) (K4 : (Int → St → Option (Int × St))) (y1 : Int64) : Nat → Int → St → Option (Int × St)
  | 0, _, _ => none
  | n9 + 1, x2, t3 =>
    bdI (f_X12_has N y1 x2 t3) fun v6 t5 =>
    cmpI v6 0 (if v6 = 0 then (f_X12_leastOf_L2 N K4 y1 n9 (x2 + 1) t5)
    else (K4 x2 t5))
def f_X12_leastOf (N : Nat) (a0 : Int64) (t : St) : Option (Int × St) :=
    f_X12_leastOf_L2 N (fun (k7 : Int) (t8 : St) => some (k7, t8)) a0 N 0 t
set_option maxHeartbeats 4000000 in
set_option maxRecDepth 100000 in
theorem t_f_X12_leastOf_L2 {p : Program} {l : Launch} {e : Env} {s : State} {m : MethodId} {args : Array Value} {below : List Frame} {meth : Method} {c : Code} {E : cE} {A : Nat → Prop} {r : Nat → Nat} {mc ms : Nat} {z : Int × St} {N : Nat} {K4 : (Int → St → Option (Int × St))} {y1 : Int64} (X : gX p s m meth c cX12_leastOf 3 (some .int) yX12_leastOf args E A) (hK4 : ∀ (q2 : Int) (t9 : St), K4 q2 t9 = some z → gP p l e rm_f_X12_leastOf s m args below meth c E A 3 (MQ below ((gqI E (gW E r shM) z) A) args s mc ms A) (gW E r shM) 16 [(2, iv q2)] [] t9) : ∀ (n9 : Nat) (x2 : Int) (t3 : St), f_X12_leastOf_L2 N K4 y1 n9 x2 t3 = some z → gP p l e rm_f_X12_leastOf s m args below meth c E A 3 (MQ below ((gqI E (gW E r shM) z) A) args s mc ms A) (gW E r shM) 2 [(0, .long y1), (2, iv x2)] [] t3 := by
  intro n9
  induction n9 with
  | zero => intro x2 t3 h; cases h
  | succ n9 ih =>
    intro x2 t3 h
    unfold f_X12_leastOf_L2 at h
    refine g_lload_n X dX12_leastOf_2 0 rfl ?_
    refine g_iload_n X dX12_leastOf_3 1 rfl ?_
    refine g_callsI (rest := []) X (fun u9 h9 => cp_X12_has l E r N y1 x2 t3 u9 h9) yy_X12_has wdT_X12_has wdM_RX12_446 rfl rfl (Nat.le_of_ble_eq_true rfl) dX12_leastOf_4 ⟨by decide, by decide⟩ ⟨rfl, rfl⟩ h (fun v6 t5 h => ?_)
    refine g_if_ne (tgt := 16) X dX12_leastOf_7 (by decide) h (fun h => ?_) (fun h => ?_)
    · exact g_sub (lv' := [(2, iv x2)]) [1] rfl (hK4 x2 t5 h)
    · refine g_iinc (lv' := [(2, iv (x2 + 1)), (0, .long y1)]) X dX12_leastOf_10 (k := 1) rfl (by decide) rfl ?_
      refine g_goto (tgt := 2) X dX12_leastOf_13 (by decide) ?_
      exact g_sub (lv' := [(0, .long y1), (2, iv (x2 + 1))]) [1, 0] rfl (ih (x2 + 1) t5 h)
set_option maxHeartbeats 4000000 in
set_option maxRecDepth 100000 in
theorem b_f_X12_leastOf {p : Program} {l : Launch} {e : Env} {s : State} {m : MethodId} {args : Array Value} {below : List Frame} {meth : Method} {c : Code} {E : cE} {A : Nat → Prop} {r : Nat → Nat} {mc ms : Nat} {z : Int × St} {N : Nat} {a0 : Int64} {t : St} (X : gX p s m meth c cX12_leastOf 3 (some .int) yX12_leastOf args E A) (h : f_X12_leastOf N a0 t = some z) : gP p l e rm_f_X12_leastOf s m args below meth c E A 3 (MQ below ((gqI E (gW E r shM) z) A) args s mc ms A) (gW E r shM) 0 [(0, .long a0)] [] t := by
  unfold f_X12_leastOf at h
  refine g_iconst X dX12_leastOf_0 ?_
  refine g_istore_n (lv' := [(2, iv 0), (0, .long a0)]) X dX12_leastOf_1 rfl (by decide) rfl ?_
  refine g_sub (lv' := [(0, .long a0), (2, iv 0)]) [1, 0] rfl (t_f_X12_leastOf_L2 X (fun k7 t8 h => ?_) N 0 t h)
  · refine g_iload_n X dX12_leastOf_16 0 rfl ?_
    exact g_iret X h dX12_leastOf_17
set_option maxHeartbeats 4000000 in
set_option maxRecDepth 100000 in
theorem cp_X12_leastOf (l : Launch) (E : cE) (r : Nat → Nat) (N : Nat) (a0 : Int64) (t : St) (z : Int × St) (h : f_X12_leastOf N a0 t = some z) : cM l E yX12_leastOf cX12_leastOf 3 (some .int) rm_f_X12_leastOf [.long a0] (gW E r shM t) (gqI E (gW E r shM) z) := by
  refine g_of (w := gW E r shM) (by decide) (Nat.le_of_ble_eq_true rfl) ?_
  intro p e s m below meth c A X
  exact g_sub (lv' := [(0, .long a0)]) [0] rfl (b_f_X12_leastOf X h)
theorem yy_X12_leastOf : cY yX12_leastOf cX12_leastOf 3 (some .int) 1 := ⟨wdK_X12_leastOf, wdZ_RX12, by decide +kernel⟩
theorem dX12_moves_0 : decode cX12_moves 0 = .ok (.lload_n 1, 1) := by decide +kernel
theorem dX12_moves_1 : decode cX12_moves 1 = .ok (.lstore 5, 2) := by decide +kernel
theorem dX12_moves_3 : decode cX12_moves 3 = .ok (.iconst 0, 1) := by decide +kernel
theorem dX12_moves_4 : decode cX12_moves 4 = .ok (.istore 7, 2) := by decide +kernel
theorem dX12_moves_6 : decode cX12_moves 6 = .ok (.iload 7, 2) := by decide +kernel
theorem dX12_moves_8 : decode cX12_moves 8 = .ok (.aload_n 0, 1) := by decide +kernel
theorem dX12_moves_9 : decode cX12_moves 9 = .ok (.getfield 503, 3) := by decide +kernel
theorem dX12_moves_12 : decode cX12_moves 12 = .ok (.if_icmp .ge 197, 3) := by decide +kernel
theorem dX12_moves_15 : decode cX12_moves 15 = .ok (.aload_n 0, 1) := by decide +kernel
theorem dX12_moves_16 : decode cX12_moves 16 = .ok (.iload_n 3, 1) := by decide +kernel
theorem dX12_moves_17 : decode cX12_moves 17 = .ok (.aload_n 0, 1) := by decide +kernel
theorem dX12_moves_18 : decode cX12_moves 18 = .ok (.getfield 168, 3) := by decide +kernel
theorem dX12_moves_21 : decode cX12_moves 21 = .ok (.iload 7, 2) := by decide +kernel
theorem dX12_moves_23 : decode cX12_moves 23 = .ok (.iaload, 1) := by decide +kernel
theorem dX12_moves_24 : decode cX12_moves 24 = .ok (.aload_n 0, 1) := by decide +kernel
theorem dX12_moves_25 : decode cX12_moves 25 = .ok (.getfield 171, 3) := by decide +kernel
theorem dX12_moves_28 : decode cX12_moves 28 = .ok (.iload 7, 2) := by decide +kernel
theorem dX12_moves_30 : decode cX12_moves 30 = .ok (.iaload, 1) := by decide +kernel
theorem dX12_moves_31 : decode cX12_moves 31 = .ok (.lload 5, 2) := by decide +kernel
theorem dX12_moves_33 : decode cX12_moves 33 = .ok (.invokevirtual 496, 3) := by decide +kernel
theorem dX12_moves_36 : decode cX12_moves 36 = .ok (.pop, 1) := by decide +kernel
theorem dX12_moves_37 : decode cX12_moves 37 = .ok (.lload 5, 2) := by decide +kernel
theorem dX12_moves_39 : decode cX12_moves 39 = .ok (.aload_n 0, 1) := by decide +kernel
theorem dX12_moves_40 : decode cX12_moves 40 = .ok (.iload_n 3, 1) := by decide +kernel
theorem dX12_moves_41 : decode cX12_moves 41 = .ok (.invokevirtual 500, 3) := by decide +kernel
theorem dX12_moves_44 : decode cX12_moves 44 = .ok (.ldc2_w 440, 3) := by decide +kernel
theorem dX12_moves_47 : decode cX12_moves 47 = .ok (.lxor, 1) := by decide +kernel
theorem dX12_moves_48 : decode cX12_moves 48 = .ok (.land, 1) := by decide +kernel
theorem dX12_moves_49 : decode cX12_moves 49 = .ok (.lstore 5, 2) := by decide +kernel
theorem dX12_moves_51 : decode cX12_moves 51 = .ok (.iconst 0, 1) := by decide +kernel
theorem dX12_moves_52 : decode cX12_moves 52 = .ok (.istore 8, 2) := by decide +kernel
theorem dX12_moves_54 : decode cX12_moves 54 = .ok (.iload 8, 2) := by decide +kernel
theorem dX12_moves_56 : decode cX12_moves 56 = .ok (.aload_n 0, 1) := by decide +kernel
theorem dX12_moves_57 : decode cX12_moves 57 = .ok (.getfield 26, 3) := by decide +kernel
theorem dX12_moves_60 : decode cX12_moves 60 = .ok (.iload_n 3, 1) := by decide +kernel
theorem dX12_moves_61 : decode cX12_moves 61 = .ok (.iaload, 1) := by decide +kernel
theorem dX12_moves_62 : decode cX12_moves 62 = .ok (.if_icmp .ge 141, 3) := by decide +kernel
theorem dX12_moves_65 : decode cX12_moves 65 = .ok (.aload_n 0, 1) := by decide +kernel
theorem dX12_moves_66 : decode cX12_moves 66 = .ok (.getfield 165, 3) := by decide +kernel
theorem dX12_moves_69 : decode cX12_moves 69 = .ok (.iload 8, 2) := by decide +kernel
theorem dX12_moves_71 : decode cX12_moves 71 = .ok (.iaload, 1) := by decide +kernel
theorem dX12_moves_72 : decode cX12_moves 72 = .ok (.istore 9, 2) := by decide +kernel
theorem dX12_moves_74 : decode cX12_moves 74 = .ok (.bipush 8, 2) := by decide +kernel
theorem dX12_moves_76 : decode cX12_moves 76 = .ok (.iload 4, 2) := by decide +kernel
theorem dX12_moves_78 : decode cX12_moves 78 = .ok (.imul, 1) := by decide +kernel
theorem dX12_moves_79 : decode cX12_moves 79 = .ok (.iload 8, 2) := by decide +kernel
theorem dX12_moves_81 : decode cX12_moves 81 = .ok (.iadd, 1) := by decide +kernel
theorem dX12_moves_82 : decode cX12_moves 82 = .ok (.istore 10, 2) := by decide +kernel
theorem dX12_moves_84 : decode cX12_moves 84 = .ok (.aload_n 0, 1) := by decide +kernel
theorem dX12_moves_85 : decode cX12_moves 85 = .ok (.getfield 150, 3) := by decide +kernel
theorem dX12_moves_88 : decode cX12_moves 88 = .ok (.iload 9, 2) := by decide +kernel
theorem dX12_moves_90 : decode cX12_moves 90 = .ok (.aload_n 0, 1) := by decide +kernel
theorem dX12_moves_91 : decode cX12_moves 91 = .ok (.getfield 484, 3) := by decide +kernel
theorem dX12_moves_94 : decode cX12_moves 94 = .ok (.aload_n 0, 1) := by decide +kernel
theorem dX12_moves_95 : decode cX12_moves 95 = .ok (.getfield 50, 3) := by decide +kernel
theorem dX12_moves_98 : decode cX12_moves 98 = .ok (.iload 10, 2) := by decide +kernel
theorem dX12_moves_100 : decode cX12_moves 100 = .ok (.iaload, 1) := by decide +kernel
theorem dX12_moves_101 : decode cX12_moves 101 = .ok (.aload_n 0, 1) := by decide +kernel
theorem dX12_moves_102 : decode cX12_moves 102 = .ok (.getfield 53, 3) := by decide +kernel
theorem dX12_moves_105 : decode cX12_moves 105 = .ok (.iload 10, 2) := by decide +kernel
theorem dX12_moves_107 : decode cX12_moves 107 = .ok (.iaload, 1) := by decide +kernel
theorem dX12_moves_108 : decode cX12_moves 108 = .ok (.aload_n 0, 1) := by decide +kernel
theorem dX12_moves_109 : decode cX12_moves 109 = .ok (.getfield 490, 3) := by decide +kernel
theorem dX12_moves_112 : decode cX12_moves 112 = .ok (.invokestatic 470, 3) := by decide +kernel
theorem dX12_moves_115 : decode cX12_moves 115 = .ok (.iadd, 1) := by decide +kernel
theorem dX12_moves_116 : decode cX12_moves 116 = .ok (.iastore, 1) := by decide +kernel
theorem dX12_moves_117 : decode cX12_moves 117 = .ok (.aload_n 0, 1) := by decide +kernel
theorem dX12_moves_118 : decode cX12_moves 118 = .ok (.getfield 153, 3) := by decide +kernel
theorem dX12_moves_121 : decode cX12_moves 121 = .ok (.iload 9, 2) := by decide +kernel
theorem dX12_moves_123 : decode cX12_moves 123 = .ok (.aload_n 0, 1) := by decide +kernel
theorem dX12_moves_124 : decode cX12_moves 124 = .ok (.getfield 487, 3) := by decide +kernel
theorem dX12_moves_127 : decode cX12_moves 127 = .ok (.aload_n 0, 1) := by decide +kernel
theorem dX12_moves_128 : decode cX12_moves 128 = .ok (.getfield 50, 3) := by decide +kernel
theorem dX12_moves_131 : decode cX12_moves 131 = .ok (.iload 10, 2) := by decide +kernel
theorem dX12_moves_133 : decode cX12_moves 133 = .ok (.iaload, 1) := by decide +kernel
theorem dX12_moves_134 : decode cX12_moves 134 = .ok (.aload_n 0, 1) := by decide +kernel
theorem dX12_moves_135 : decode cX12_moves 135 = .ok (.getfield 53, 3) := by decide +kernel
theorem dX12_moves_138 : decode cX12_moves 138 = .ok (.iload 10, 2) := by decide +kernel
theorem dX12_moves_140 : decode cX12_moves 140 = .ok (.iaload, 1) := by decide +kernel
theorem dX12_moves_141 : decode cX12_moves 141 = .ok (.aload_n 0, 1) := by decide +kernel
theorem dX12_moves_142 : decode cX12_moves 142 = .ok (.getfield 490, 3) := by decide +kernel
theorem dX12_moves_145 : decode cX12_moves 145 = .ok (.invokestatic 474, 3) := by decide +kernel
theorem dX12_moves_148 : decode cX12_moves 148 = .ok (.iadd, 1) := by decide +kernel
theorem dX12_moves_149 : decode cX12_moves 149 = .ok (.iastore, 1) := by decide +kernel
theorem dX12_moves_150 : decode cX12_moves 150 = .ok (.aload_n 0, 1) := by decide +kernel
theorem dX12_moves_151 : decode cX12_moves 151 = .ok (.getfield 156, 3) := by decide +kernel
theorem dX12_moves_154 : decode cX12_moves 154 = .ok (.iload 9, 2) := by decide +kernel
theorem dX12_moves_156 : decode cX12_moves 156 = .ok (.aload_n 0, 1) := by decide +kernel
theorem dX12_moves_157 : decode cX12_moves 157 = .ok (.getfield 77, 3) := by decide +kernel
theorem dX12_moves_160 : decode cX12_moves 160 = .ok (.iload 9, 2) := by decide +kernel
theorem dX12_moves_162 : decode cX12_moves 162 = .ok (.iaload, 1) := by decide +kernel
theorem dX12_moves_163 : decode cX12_moves 163 = .ok (.aload_n 0, 1) := by decide +kernel
theorem dX12_moves_164 : decode cX12_moves 164 = .ok (.getfield 56, 3) := by decide +kernel
theorem dX12_moves_167 : decode cX12_moves 167 = .ok (.iload 10, 2) := by decide +kernel
theorem dX12_moves_169 : decode cX12_moves 169 = .ok (.iaload, 1) := by decide +kernel
theorem dX12_moves_170 : decode cX12_moves 170 = .ok (.iadd, 1) := by decide +kernel
theorem dX12_moves_171 : decode cX12_moves 171 = .ok (.invokestatic 481, 3) := by decide +kernel
theorem dX12_moves_174 : decode cX12_moves 174 = .ok (.iastore, 1) := by decide +kernel
theorem dX12_moves_175 : decode cX12_moves 175 = .ok (.aload_n 0, 1) := by decide +kernel
theorem dX12_moves_176 : decode cX12_moves 176 = .ok (.getfield 159, 3) := by decide +kernel
theorem dX12_moves_179 : decode cX12_moves 179 = .ok (.iload 9, 2) := by decide +kernel
theorem dX12_moves_181 : decode cX12_moves 181 = .ok (.aload_n 0, 1) := by decide +kernel
theorem dX12_moves_182 : decode cX12_moves 182 = .ok (.getfield 80, 3) := by decide +kernel
theorem dX12_moves_185 : decode cX12_moves 185 = .ok (.iload 9, 2) := by decide +kernel
theorem dX12_moves_187 : decode cX12_moves 187 = .ok (.iaload, 1) := by decide +kernel
theorem dX12_moves_188 : decode cX12_moves 188 = .ok (.aload_n 0, 1) := by decide +kernel
theorem dX12_moves_189 : decode cX12_moves 189 = .ok (.getfield 56, 3) := by decide +kernel
theorem dX12_moves_192 : decode cX12_moves 192 = .ok (.iload 10, 2) := by decide +kernel
theorem dX12_moves_194 : decode cX12_moves 194 = .ok (.iaload, 1) := by decide +kernel
theorem dX12_moves_195 : decode cX12_moves 195 = .ok (.iadd, 1) := by decide +kernel
theorem dX12_moves_196 : decode cX12_moves 196 = .ok (.iastore, 1) := by decide +kernel
theorem dX12_moves_197 : decode cX12_moves 197 = .ok (.iinc 8 1, 3) := by decide +kernel
theorem dX12_moves_200 : decode cX12_moves 200 = .ok (.goto (-146), 3) := by decide +kernel
theorem dX12_moves_203 : decode cX12_moves 203 = .ok (.iinc 7 1, 3) := by decide +kernel
theorem dX12_moves_206 : decode cX12_moves 206 = .ok (.goto (-200), 3) := by decide +kernel
theorem dX12_moves_209 : decode cX12_moves 209 = .ok (.return_, 1) := by decide +kernel
abbrev rm_f_X12_moves : Room := { frames := 2, cells := 0, slots := 0, locals := 55 }
def f_X12_moves_L54 (N : Nat) (K20 : (St → Option (St))) (y14 : Int) (y15 : Int) : Nat → Int → St → Option (St)
  | 0, _, _ => none
  | n9 + 1, x18, t19 =>
    ixI y14 40 (lt1 (t19.1 18 y14.toNat) fun v21 =>
    cmpI x18 v21 (if x18 < v21 then (ixI x18 8 (lt1 (t19.1 81 x18.toNat) fun v22 =>
    lt1 (t19.1 200 82) fun v23 =>
    ixI ((8 * y15) + x18) 800 (lt1 (t19.1 26 ((8 * y15) + x18).toNat) fun v24 =>
    ixI ((8 * y15) + x18) 800 (lt1 (t19.1 27 ((8 * y15) + x18).toNat) fun v25 =>
    lt1 (t19.1 200 84) fun v26 =>
    bdI (f_X12_turnedX N v24 v25 v26 t19) fun v28 t27 =>
    ixI v22 64 (lt1 (pI t27 76 v22.toNat (v23 + v28)) fun t29 =>
    lt1 (t29.1 200 83) fun v30 =>
    ixI ((8 * y15) + x18) 800 (lt1 (t29.1 26 ((8 * y15) + x18).toNat) fun v31 =>
    ixI ((8 * y15) + x18) 800 (lt1 (t29.1 27 ((8 * y15) + x18).toNat) fun v32 =>
    lt1 (t29.1 200 84) fun v33 =>
    bdI (f_X12_turnedY N v31 v32 v33 t29) fun v35 t34 =>
    ixI v22 64 (lt1 (pI t34 77 v22.toNat (v30 + v35)) fun t36 =>
    ixI v22 64 (lt1 (t36.1 40 v22.toNat) fun v37 =>
    ixI ((8 * y15) + x18) 800 (lt1 (t36.1 28 ((8 * y15) + x18).toNat) fun v38 =>
    bdI (f_X12_turns N (v37 + v38) t36) fun v40 t39 =>
    ixI v22 64 (lt1 (pI t39 78 v22.toNat v40) fun t41 =>
    ixI v22 64 (lt1 (t41.1 41 v22.toNat) fun v42 =>
    ixI ((8 * y15) + x18) 800 (lt1 (t41.1 28 ((8 * y15) + x18).toNat) fun v43 =>
    ixI v22 64 (lt1 (pI t41 79 v22.toNat (v42 + v43)) fun t44 =>
    f_X12_moves_L54 N K20 y14 y15 n9 (x18 + 1) t44))))))))))))))
    else (K20 t19)))
def f_X12_moves_L6 (N : Nat) (K6 : (St → Option (St))) (y1 : Int) (y2 : Int) : Nat → Int64 → Int → St → Option (St)
  | 0, _, _, _ => none
  | n9 + 1, x3, x4, t5 =>
    lt1 (t5.1 200 88) fun v7 =>
    cmpI x4 v7 (if x4 < v7 then (ixI x4 64 (lt1 (t5.1 86 x4.toNat) fun v8 =>
    ixI x4 64 (lt1 (t5.1 87 x4.toNat) fun v9 =>
    bdI (f_X12_fits N y1 v8 v9 x3 t5) fun v11 t10 =>
    bdL (f_X12_ofCopy N y1 t10) fun v13 t12 =>
    f_X12_moves_L54 N (fun (t45 : St) => f_X12_moves_L6 N K6 y1 y2 n9 (x3 &&& (v13 ^^^ (-1 : Int64))) (x4 + 1) t45) y1 y2 N 0 t12)))
    else (K6 t5))
def f_X12_moves (N : Nat) (a0 : Int64) (a1 : Int) (a2 : Int) (t : St) : Option (St) :=
    f_X12_moves_L6 N (fun (t46 : St) => some t46) a1 a2 N a0 0 t
set_option maxHeartbeats 4000000 in
set_option maxRecDepth 100000 in
theorem t_f_X12_moves_L54 {p : Program} {l : Launch} {e : Env} {s : State} {m : MethodId} {args : Array Value} {below : List Frame} {meth : Method} {c : Code} {E : cE} {A : Nat → Prop} {r : Nat → Nat} {mc ms : Nat} {z : St} {N : Nat} {K20 : (St → Option (St))} {y14 : Int} {y15 : Int} {y16 : Int64} {y17 : Int} (X : gX p s m meth c cX12_moves 11 none yX12_moves args E A) (hK20 : ∀ (t9 : St), K20 t9 = some z → gP p l e rm_f_X12_moves s m args below meth c E A 11 (MQ below ((gqV E (gW E r shM) z) A) args s mc ms A) (gW E r shM) 203 [(0, .ref (r 200)), (3, iv y14), (4, iv y15), (5, .long y16), (7, iv y17)] [] t9) : ∀ (n9 : Nat) (x18 : Int) (t19 : St), f_X12_moves_L54 N K20 y14 y15 n9 x18 t19 = some z → gP p l e rm_f_X12_moves s m args below meth c E A 11 (MQ below ((gqV E (gW E r shM) z) A) args s mc ms A) (gW E r shM) 54 [(0, .ref (r 200)), (3, iv y14), (4, iv y15), (5, .long y16), (7, iv y17), (8, iv x18)] [] t19 := by
  intro n9
  induction n9 with
  | zero => intro x18 t19 h; cases h
  | succ n9 ih =>
    intro x18 t19 h
    unfold f_X12_moves_L54 at h
    refine g_iload X dX12_moves_54 5 rfl ?_
    refine g_aload_n X dX12_moves_56 0 rfl ?_
    refine g_getR X fM_18 rfl dX12_moves_57 ?_
    refine g_iload_n X dX12_moves_60 1 rfl ?_
    refine g_iald X aM_18 dX12_moves_61 h (fun v21 h => ?_)
    refine g_icmp_ge (tgt := 203) X dX12_moves_62 (by decide) h (fun h => ?_) (fun h => ?_)
    · exact g_sub (lv' := [(0, .ref (r 200)), (3, iv y14), (4, iv y15), (5, .long y16), (7, iv y17)]) [0, 1, 2, 3, 4] rfl (hK20 t19 h)
    · refine g_aload_n X dX12_moves_65 0 rfl ?_
      refine g_getR X fM_81 rfl dX12_moves_66 ?_
      refine g_iload X dX12_moves_69 5 rfl ?_
      refine g_iald X aM_81 dX12_moves_71 h (fun v22 h => ?_)
      refine g_istore (lv' := [(9, iv v22), (0, .ref (r 200)), (3, iv y14), (4, iv y15), (5, .long y16), (7, iv y17), (8, iv x18)]) X dX12_moves_72 (by decide) rfl ?_
      refine g_bipush X dX12_moves_74 (by decide) ?_
      refine g_iload X dX12_moves_76 3 rfl ?_
      refine g_imul X dX12_moves_78 ?_
      refine g_iload X dX12_moves_79 6 rfl ?_
      refine g_iadd X dX12_moves_81 ?_
      refine g_istore (lv' := [(10, iv ((8 * y15) + x18)), (9, iv v22), (0, .ref (r 200)), (3, iv y14), (4, iv y15), (5, .long y16), (7, iv y17), (8, iv x18)]) X dX12_moves_82 (by decide) rfl ?_
      refine g_aload_n X dX12_moves_84 2 rfl ?_
      refine g_getR X fM_76 rfl dX12_moves_85 ?_
      refine g_iload X dX12_moves_88 1 rfl ?_
      refine g_aload_n X dX12_moves_90 2 rfl ?_
      refine g_getI X fM_82 rfl dX12_moves_91 h (fun v23 h => ?_)
      refine g_aload_n X dX12_moves_94 2 rfl ?_
      refine g_getR X fM_26 rfl dX12_moves_95 ?_
      refine g_iload X dX12_moves_98 0 rfl ?_
      refine g_iald X aM_26 dX12_moves_100 h (fun v24 h => ?_)
      refine g_aload_n X dX12_moves_101 2 rfl ?_
      refine g_getR X fM_27 rfl dX12_moves_102 ?_
      refine g_iload X dX12_moves_105 0 rfl ?_
      refine g_iald X aM_27 dX12_moves_107 h (fun v25 h => ?_)
      refine g_aload_n X dX12_moves_108 2 rfl ?_
      refine g_getI X fM_84 rfl dX12_moves_109 h (fun v26 h => ?_)
      refine g_callsI (rest := [iv v23, iv v22, .ref (r 76)]) X (fun u9 h9 => cp_X12_turnedX l E r N v24 v25 v26 t19 u9 h9) yy_X12_turnedX wdT_X12_turnedX wdM_RX12_470 rfl rfl (Nat.le_of_ble_eq_true rfl) dX12_moves_112 ⟨by decide, by decide⟩ ⟨rfl, rfl⟩ h (fun v28 t27 h => ?_)
      refine g_iadd X dX12_moves_115 ?_
      refine g_iast X aM_76 dX12_moves_116 h (fun t29 h => ?_)
      refine g_aload_n X dX12_moves_117 2 rfl ?_
      refine g_getR X fM_77 rfl dX12_moves_118 ?_
      refine g_iload X dX12_moves_121 1 rfl ?_
      refine g_aload_n X dX12_moves_123 2 rfl ?_
      refine g_getI X fM_83 rfl dX12_moves_124 h (fun v30 h => ?_)
      refine g_aload_n X dX12_moves_127 2 rfl ?_
      refine g_getR X fM_26 rfl dX12_moves_128 ?_
      refine g_iload X dX12_moves_131 0 rfl ?_
      refine g_iald X aM_26 dX12_moves_133 h (fun v31 h => ?_)
      refine g_aload_n X dX12_moves_134 2 rfl ?_
      refine g_getR X fM_27 rfl dX12_moves_135 ?_
      refine g_iload X dX12_moves_138 0 rfl ?_
      refine g_iald X aM_27 dX12_moves_140 h (fun v32 h => ?_)
      refine g_aload_n X dX12_moves_141 2 rfl ?_
      refine g_getI X fM_84 rfl dX12_moves_142 h (fun v33 h => ?_)
      refine g_callsI (rest := [iv v30, iv v22, .ref (r 77)]) X (fun u9 h9 => cp_X12_turnedY l E r N v31 v32 v33 t29 u9 h9) yy_X12_turnedY wdT_X12_turnedY wdM_RX12_474 rfl rfl (Nat.le_of_ble_eq_true rfl) dX12_moves_145 ⟨by decide, by decide⟩ ⟨rfl, rfl⟩ h (fun v35 t34 h => ?_)
      refine g_iadd X dX12_moves_148 ?_
      refine g_iast X aM_77 dX12_moves_149 h (fun t36 h => ?_)
      refine g_aload_n X dX12_moves_150 2 rfl ?_
      refine g_getR X fM_78 rfl dX12_moves_151 ?_
      refine g_iload X dX12_moves_154 1 rfl ?_
      refine g_aload_n X dX12_moves_156 2 rfl ?_
      refine g_getR X fM_40 rfl dX12_moves_157 ?_
      refine g_iload X dX12_moves_160 1 rfl ?_
      refine g_iald X aM_40 dX12_moves_162 h (fun v37 h => ?_)
      refine g_aload_n X dX12_moves_163 2 rfl ?_
      refine g_getR X fM_28 rfl dX12_moves_164 ?_
      refine g_iload X dX12_moves_167 0 rfl ?_
      refine g_iald X aM_28 dX12_moves_169 h (fun v38 h => ?_)
      refine g_iadd X dX12_moves_170 ?_
      refine g_callsI (rest := [iv v22, .ref (r 78)]) X (fun u9 h9 => cp_X12_turns l E r N (v37 + v38) t36 u9 h9) yy_X12_turns wdT_X12_turns wdM_RX12_481 rfl rfl (Nat.le_of_ble_eq_true rfl) dX12_moves_171 ⟨by decide, by decide⟩ ⟨rfl, rfl⟩ h (fun v40 t39 h => ?_)
      refine g_iast X aM_78 dX12_moves_174 h (fun t41 h => ?_)
      refine g_aload_n X dX12_moves_175 2 rfl ?_
      refine g_getR X fM_79 rfl dX12_moves_176 ?_
      refine g_iload X dX12_moves_179 1 rfl ?_
      refine g_aload_n X dX12_moves_181 2 rfl ?_
      refine g_getR X fM_41 rfl dX12_moves_182 ?_
      refine g_iload X dX12_moves_185 1 rfl ?_
      refine g_iald X aM_41 dX12_moves_187 h (fun v42 h => ?_)
      refine g_aload_n X dX12_moves_188 2 rfl ?_
      refine g_getR X fM_28 rfl dX12_moves_189 ?_
      refine g_iload X dX12_moves_192 0 rfl ?_
      refine g_iald X aM_28 dX12_moves_194 h (fun v43 h => ?_)
      refine g_iadd X dX12_moves_195 ?_
      refine g_iast X aM_79 dX12_moves_196 h (fun t44 h => ?_)
      refine g_iinc (lv' := [(8, iv (x18 + 1)), (10, iv ((8 * y15) + x18)), (9, iv v22), (0, .ref (r 200)), (3, iv y14), (4, iv y15), (5, .long y16), (7, iv y17)]) X dX12_moves_197 (k := 7) rfl (by decide) rfl ?_
      refine g_goto (tgt := 54) X dX12_moves_200 (by decide) ?_
      exact g_sub (lv' := [(0, .ref (r 200)), (3, iv y14), (4, iv y15), (5, .long y16), (7, iv y17), (8, iv (x18 + 1))]) [3, 4, 5, 6, 7, 0] rfl (ih (x18 + 1) t44 h)
set_option maxHeartbeats 4000000 in
set_option maxRecDepth 100000 in
theorem t_f_X12_moves_L6 {p : Program} {l : Launch} {e : Env} {s : State} {m : MethodId} {args : Array Value} {below : List Frame} {meth : Method} {c : Code} {E : cE} {A : Nat → Prop} {r : Nat → Nat} {mc ms : Nat} {z : St} {N : Nat} {K6 : (St → Option (St))} {y1 : Int} {y2 : Int} (X : gX p s m meth c cX12_moves 11 none yX12_moves args E A) (hK6 : ∀ (t9 : St), K6 t9 = some z → gP p l e rm_f_X12_moves s m args below meth c E A 11 (MQ below ((gqV E (gW E r shM) z) A) args s mc ms A) (gW E r shM) 209 [] [] t9) : ∀ (n9 : Nat) (x3 : Int64) (x4 : Int) (t5 : St), f_X12_moves_L6 N K6 y1 y2 n9 x3 x4 t5 = some z → gP p l e rm_f_X12_moves s m args below meth c E A 11 (MQ below ((gqV E (gW E r shM) z) A) args s mc ms A) (gW E r shM) 6 [(0, .ref (r 200)), (3, iv y1), (4, iv y2), (5, .long x3), (7, iv x4)] [] t5 := by
  intro n9
  induction n9 with
  | zero => intro x3 x4 t5 h; cases h
  | succ n9 ih =>
    intro x3 x4 t5 h
    unfold f_X12_moves_L6 at h
    refine g_iload X dX12_moves_6 4 rfl ?_
    refine g_aload_n X dX12_moves_8 0 rfl ?_
    refine g_getI X fM_88 rfl dX12_moves_9 h (fun v7 h => ?_)
    refine g_icmp_ge (tgt := 209) X dX12_moves_12 (by decide) h (fun h => ?_) (fun h => ?_)
    · exact g_sub (lv' := []) [] rfl (hK6 t5 h)
    · refine g_aload_n X dX12_moves_15 0 rfl ?_
      refine g_iload_n X dX12_moves_16 1 rfl ?_
      refine g_aload_n X dX12_moves_17 0 rfl ?_
      refine g_getR X fM_86 rfl dX12_moves_18 ?_
      refine g_iload X dX12_moves_21 4 rfl ?_
      refine g_iald X aM_86 dX12_moves_23 h (fun v8 h => ?_)
      refine g_aload_n X dX12_moves_24 0 rfl ?_
      refine g_getR X fM_87 rfl dX12_moves_25 ?_
      refine g_iload X dX12_moves_28 4 rfl ?_
      refine g_iald X aM_87 dX12_moves_30 h (fun v9 h => ?_)
      refine g_lload X dX12_moves_31 3 rfl ?_
      refine g_callI (rest := []) X (fun u9 h9 => cp_X12_fits l E r N y1 v8 v9 x3 t5 u9 h9) yy_X12_fits yi_X12_fits wdM_RX12_496 0 12 (gW_at oM) rfl rfl rfl (Nat.le_of_ble_eq_true rfl) dX12_moves_33 ⟨by decide, by decide⟩ ⟨rfl, rfl⟩ h (fun v11 t10 h => ?_)
      refine g_pop X rfl dX12_moves_36 ?_
      refine g_lload X dX12_moves_37 3 rfl ?_
      refine g_aload_n X dX12_moves_39 0 rfl ?_
      refine g_iload_n X dX12_moves_40 1 rfl ?_
      refine g_callL (rest := [.long x3]) X (fun u9 h9 => cp_X12_ofCopy l E r N y1 t10 u9 h9) yy_X12_ofCopy yi_X12_ofCopy wdM_RX12_500 0 12 (gW_at oM) rfl rfl rfl (Nat.le_of_ble_eq_true rfl) dX12_moves_41 ⟨by decide, by decide⟩ ⟨rfl, rfl⟩ h (fun v13 t12 h => ?_)
      refine g_ldc2 X rfl wdL_RX12_440 dX12_moves_44 ?_
      refine g_lxor X dX12_moves_47 ?_
      refine g_land X dX12_moves_48 ?_
      refine g_lstore (lv' := [(5, .long (x3 &&& (v13 ^^^ (-1 : Int64)))), (0, .ref (r 200)), (3, iv y1), (4, iv y2), (7, iv x4)]) X dX12_moves_49 (by decide) rfl ?_
      refine g_iconst X dX12_moves_51 ?_
      refine g_istore (lv' := [(8, iv 0), (5, .long (x3 &&& (v13 ^^^ (-1 : Int64)))), (0, .ref (r 200)), (3, iv y1), (4, iv y2), (7, iv x4)]) X dX12_moves_52 (by decide) rfl ?_
      refine g_sub (lv' := [(0, .ref (r 200)), (3, iv y1), (4, iv y2), (5, .long (x3 &&& (v13 ^^^ (-1 : Int64)))), (7, iv x4), (8, iv 0)]) [2, 3, 4, 1, 5, 0] rfl (t_f_X12_moves_L54 X (fun t45 h => ?_) N 0 t12 h)
      · refine g_iinc (lv' := [(7, iv (x4 + 1)), (0, .ref (r 200)), (3, iv y1), (4, iv y2), (5, .long (x3 &&& (v13 ^^^ (-1 : Int64))))]) X dX12_moves_203 (k := 4) rfl (by decide) rfl ?_
        refine g_goto (tgt := 6) X dX12_moves_206 (by decide) ?_
        exact g_sub (lv' := [(0, .ref (r 200)), (3, iv y1), (4, iv y2), (5, .long (x3 &&& (v13 ^^^ (-1 : Int64)))), (7, iv (x4 + 1))]) [1, 2, 3, 4, 0] rfl (ih (x3 &&& (v13 ^^^ (-1 : Int64))) (x4 + 1) t45 h)
set_option maxHeartbeats 4000000 in
set_option maxRecDepth 100000 in
theorem b_f_X12_moves {p : Program} {l : Launch} {e : Env} {s : State} {m : MethodId} {args : Array Value} {below : List Frame} {meth : Method} {c : Code} {E : cE} {A : Nat → Prop} {r : Nat → Nat} {mc ms : Nat} {z : St} {N : Nat} {a0 : Int64} {a1 : Int} {a2 : Int} {t : St} (X : gX p s m meth c cX12_moves 11 none yX12_moves args E A) (h : f_X12_moves N a0 a1 a2 t = some z) : gP p l e rm_f_X12_moves s m args below meth c E A 11 (MQ below ((gqV E (gW E r shM) z) A) args s mc ms A) (gW E r shM) 0 [(0, .ref (r 200)), (1, .long a0), (3, iv a1), (4, iv a2)] [] t := by
  unfold f_X12_moves at h
  refine g_lload_n X dX12_moves_0 1 rfl ?_
  refine g_lstore (lv' := [(5, .long a0), (0, .ref (r 200)), (1, .long a0), (3, iv a1), (4, iv a2)]) X dX12_moves_1 (by decide) rfl ?_
  refine g_iconst X dX12_moves_3 ?_
  refine g_istore (lv' := [(7, iv 0), (5, .long a0), (0, .ref (r 200)), (1, .long a0), (3, iv a1), (4, iv a2)]) X dX12_moves_4 (by decide) rfl ?_
  refine g_sub (lv' := [(0, .ref (r 200)), (3, iv a1), (4, iv a2), (5, .long a0), (7, iv 0)]) [2, 4, 5, 1, 0] rfl (t_f_X12_moves_L6 X (fun t46 h => ?_) N a0 0 t h)
  · exact g_vret X h dX12_moves_209
set_option maxHeartbeats 4000000 in
set_option maxRecDepth 100000 in
theorem cp_X12_moves (l : Launch) (E : cE) (r : Nat → Nat) (N : Nat) (a0 : Int64) (a1 : Int) (a2 : Int) (t : St) (z : St) (h : f_X12_moves N a0 a1 a2 t = some z) : cM l E yX12_moves cX12_moves 11 none rm_f_X12_moves [.ref (r 200), .long a0, iv a1, iv a2] (gW E r shM t) (gqV E (gW E r shM) z) := by
  refine g_of (w := gW E r shM) (by decide) (Nat.le_of_ble_eq_true rfl) ?_
  intro p e s m below meth c A X
  exact g_sub (lv' := [(0, .ref (r 200)), (1, .long a0), (3, iv a1), (4, iv a2)]) [0, 1, 2, 3] rfl (b_f_X12_moves X h)
theorem yy_X12_moves : cY yX12_moves cX12_moves 11 none 3 := ⟨wdK_X12_moves, wdZ_RX12, by decide +kernel⟩
theorem yi_X12_moves : cYi yX12_moves := ⟨wdN_X12_moves, wdS_X12_moves⟩
