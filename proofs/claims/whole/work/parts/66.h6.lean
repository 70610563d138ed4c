abbrev rmS_readBlock (D : Nat) : Room := { frames := D + 204, cells := 0, slots := 0, locals := 60 * D + 12088 }
theorem yy_X7_readBlock : cY yX7_readBlock cX7_readBlock 2 (some .boolean) 0 := ⟨wdK_X7_readBlock, wdZ_RX7, by decide +kernel⟩
theorem yi_X7_readBlock : cYi yX7_readBlock := ⟨wdN_X7_readBlock, wdS_X7_readBlock⟩
theorem yy_X7_readStatement : cY yX7_readStatement cX7_readStatement 1 (some .boolean) 0 := ⟨wdK_X7_readStatement, wdZ_RX7, by decide +kernel⟩
theorem yi_X7_readStatement : cYi yX7_readStatement := ⟨wdN_X7_readStatement, wdS_X7_readStatement⟩
theorem yy_X7_readRepeat : cY yX7_readRepeat cX7_readRepeat 2 (some .boolean) 0 := ⟨wdK_X7_readRepeat, wdZ_RX7, by decide +kernel⟩
theorem yi_X7_readRepeat : cYi yX7_readRepeat := ⟨wdN_X7_readRepeat, wdS_X7_readRepeat⟩
theorem yy_X7_readUntil : cY yX7_readUntil cX7_readUntil 5 (some .boolean) 0 := ⟨wdK_X7_readUntil, wdZ_RX7, by decide +kernel⟩
theorem yi_X7_readUntil : cYi yX7_readUntil := ⟨wdN_X7_readUntil, wdS_X7_readUntil⟩
theorem yy_X7_readIf : cY yX7_readIf cX7_readIf 4 (some .boolean) 0 := ⟨wdK_X7_readIf, wdZ_RX7, by decide +kernel⟩
theorem yi_X7_readIf : cYi yX7_readIf := ⟨wdN_X7_readIf, wdS_X7_readIf⟩
theorem yy_X7_readFor : cY yX7_readFor cX7_readFor 2 (some .boolean) 0 := ⟨wdK_X7_readFor, wdZ_RX7, by decide +kernel⟩
theorem yi_X7_readFor : cYi yX7_readFor := ⟨wdN_X7_readFor, wdS_X7_readFor⟩
theorem dX7_readBlock_0 : decode cX7_readBlock 0 = .ok (.aload_n 0, 1) := by decide +kernel
theorem dX7_readBlock_1 : decode cX7_readBlock 1 = .ok (.getfield 29, 3) := by decide +kernel
theorem dX7_readBlock_4 : decode cX7_readBlock 4 = .ok (.bipush 40, 2) := by decide +kernel
theorem dX7_readBlock_6 : decode cX7_readBlock 6 = .ok (.if_icmp .eq 9, 3) := by decide +kernel
theorem dX7_readBlock_9 : decode cX7_readBlock 9 = .ok (.aload_n 0, 1) := by decide +kernel
theorem dX7_readBlock_10 : decode cX7_readBlock 10 = .ok (.iconst 1, 1) := by decide +kernel
theorem dX7_readBlock_11 : decode cX7_readBlock 11 = .ok (.invokevirtual 48, 3) := by decide +kernel
theorem dX7_readBlock_14 : decode cX7_readBlock 14 = .ok (.ireturn, 1) := by decide +kernel
theorem dX7_readBlock_15 : decode cX7_readBlock 15 = .ok (.aload_n 0, 1) := by decide +kernel
theorem dX7_readBlock_16 : decode cX7_readBlock 16 = .ok (.invokevirtual 212, 3) := by decide +kernel
theorem dX7_readBlock_19 : decode cX7_readBlock 19 = .ok (.ifCond .ne 5, 3) := by decide +kernel
theorem dX7_readBlock_22 : decode cX7_readBlock 22 = .ok (.iconst 0, 1) := by decide +kernel
theorem dX7_readBlock_23 : decode cX7_readBlock 23 = .ok (.ireturn, 1) := by decide +kernel
theorem dX7_readBlock_24 : decode cX7_readBlock 24 = .ok (.iconst 0, 1) := by decide +kernel
theorem dX7_readBlock_25 : decode cX7_readBlock 25 = .ok (.istore_n 1, 1) := by decide +kernel
theorem dX7_readBlock_26 : decode cX7_readBlock 26 = .ok (.iload_n 1, 1) := by decide +kernel
theorem dX7_readBlock_27 : decode cX7_readBlock 27 = .ok (.sipush 4096, 3) := by decide +kernel
theorem dX7_readBlock_30 : decode cX7_readBlock 30 = .ok (.if_icmp .ge 27, 3) := by decide +kernel
theorem dX7_readBlock_33 : decode cX7_readBlock 33 = .ok (.aload_n 0, 1) := by decide +kernel
theorem dX7_readBlock_34 : decode cX7_readBlock 34 = .ok (.getfield 29, 3) := by decide +kernel
theorem dX7_readBlock_37 : decode cX7_readBlock 37 = .ok (.bipush 41, 2) := by decide +kernel
theorem dX7_readBlock_39 : decode cX7_readBlock 39 = .ok (.if_icmp .eq 18, 3) := by decide +kernel
theorem dX7_readBlock_42 : decode cX7_readBlock 42 = .ok (.aload_n 0, 1) := by decide +kernel
theorem dX7_readBlock_43 : decode cX7_readBlock 43 = .ok (.invokevirtual 215, 3) := by decide +kernel
theorem dX7_readBlock_46 : decode cX7_readBlock 46 = .ok (.ifCond .ne 5, 3) := by decide +kernel
theorem dX7_readBlock_49 : decode cX7_readBlock 49 = .ok (.iconst 0, 1) := by decide +kernel
theorem dX7_readBlock_50 : decode cX7_readBlock 50 = .ok (.ireturn, 1) := by decide +kernel
theorem dX7_readBlock_51 : decode cX7_readBlock 51 = .ok (.iinc 1 1, 3) := by decide +kernel
theorem dX7_readBlock_54 : decode cX7_readBlock 54 = .ok (.goto (-28), 3) := by decide +kernel
theorem dX7_readBlock_57 : decode cX7_readBlock 57 = .ok (.aload_n 0, 1) := by decide +kernel
theorem dX7_readBlock_58 : decode cX7_readBlock 58 = .ok (.dup, 1) := by decide +kernel
theorem dX7_readBlock_59 : decode cX7_readBlock 59 = .ok (.getfield 96, 3) := by decide +kernel
theorem dX7_readBlock_62 : decode cX7_readBlock 62 = .ok (.iconst 1, 1) := by decide +kernel
theorem dX7_readBlock_63 : decode cX7_readBlock 63 = .ok (.isub, 1) := by decide +kernel
theorem dX7_readBlock_64 : decode cX7_readBlock 64 = .ok (.putfield 96, 3) := by decide +kernel
theorem dX7_readBlock_67 : decode cX7_readBlock 67 = .ok (.aload_n 0, 1) := by decide +kernel
theorem dX7_readBlock_68 : decode cX7_readBlock 68 = .ok (.bipush 41, 2) := by decide +kernel
theorem dX7_readBlock_70 : decode cX7_readBlock 70 = .ok (.invokevirtual 58, 3) := by decide +kernel
theorem dX7_readBlock_73 : decode cX7_readBlock 73 = .ok (.ireturn, 1) := by decide +kernel
def o_X7_readBlock_L26 (fo_readStatement : (St → Option (Int × St))) (K6 : (St → Option (Int × St))) : Nat → Int → St → Option (Int × St)
  | 0, _, _ => none
  | n9 + 1, x4, t5 =>
    cmpI x4 4096 (if x4 < 4096 then (lt1 (t5.1 303 3) fun v7 =>
    cmpI v7 41 (if v7 = 41 then (K6 t5)
    else (bdI (fo_readStatement t5) fun v9 t8 =>
    cmpI v9 0 (if v9 = 0 then (boI 0 (some (0, t8)))
    else (o_X7_readBlock_L26 fo_readStatement K6 n9 (x4 + 1) t8)))))
    else (K6 t5))
def o_X7_readBlock (N : Nat) (fo_readStatement : (St → Option (Int × St))) (t : St) : Option (Int × St) :=
    lt1 (t.1 303 3) fun v1 =>
    cmpI v1 40 (if v1 = 40 then (bdI (f_X7_nest N t) fun v3 t2 =>
    cmpI v3 0 (if v3 = 0 then (boI 0 (some (0, t2)))
    else (o_X7_readBlock_L26 fo_readStatement (fun (t10 : St) => lt1 (t10.1 303 6) fun v11 =>
    lt1 (pI t10 303 6 (v11 - 1)) fun t12 =>
    bdI (f_X7_take N 41 t12) fun v14 t13 =>
    boI v14 (some (v14, t13))) N 0 t2)))
    else (bdI (f_X7_wrong N 1 t) fun v16 t15 =>
    boI v16 (some (v16, t15))))
set_option maxHeartbeats 4000000 in
set_option maxRecDepth 100000 in
theorem t_o_X7_readBlock_L26 {p : Program} {l : Launch} {e : Env} {s : State} {m : MethodId} {args : Array Value} {below : List Frame} {meth : Method} {c : Code} {E : cE} {A : Nat → Prop} {r : Nat → Nat} {mc ms : Nat} {z : Int × St} {D9 : Nat} {fo_readStatement : (St → Option (Int × St))} {K6 : (St → Option (Int × St))} (X : gX p s m meth c cX7_readBlock 2 (some .boolean) yX7_readBlock args E A) (ho_readStatement : ∀ (t : St) (z : Int × St), fo_readStatement t = some z → cM l E yX7_readStatement cX7_readStatement 1 (some .boolean) (rmS_readBlock D9) [.ref (r 303)] (gW E r shH t) (gqI E (gW E r shH) z)) (hK6 : ∀ (t9 : St), K6 t9 = some z → gP p l e (rmS_readBlock (D9 + 1)) s m args below meth c E A 2 (MQ below ((gqI E (gW E r shH) z) A) args s mc ms A) (gW E r shH) 57 [(0, .ref (r 303))] [] t9) : ∀ (n9 : Nat) (x4 : Int) (t5 : St), o_X7_readBlock_L26 fo_readStatement K6 n9 x4 t5 = some z → gP p l e (rmS_readBlock (D9 + 1)) s m args below meth c E A 2 (MQ below ((gqI E (gW E r shH) z) A) args s mc ms A) (gW E r shH) 26 [(0, .ref (r 303)), (1, iv x4)] [] t5 := by
  intro n9
  induction n9 with
  | zero => intro x4 t5 h; cases h
  | succ n9 ih =>
    intro x4 t5 h
    unfold o_X7_readBlock_L26 at h
    refine g_iload_n X dX7_readBlock_26 1 rfl ?_
    refine g_sipush X dX7_readBlock_27 (by decide) ?_
    refine g_icmp_ge (tgt := 57) X dX7_readBlock_30 (by decide) h (fun h => ?_) (fun h => ?_)
    · exact g_sub (lv' := [(0, .ref (r 303))]) [0] rfl (hK6 t5 h)
    · refine g_aload_n X dX7_readBlock_33 0 rfl ?_
      refine g_getI X fH_X7_29_303 rfl dX7_readBlock_34 h (fun v7 h => ?_)
      refine g_bipush X dX7_readBlock_37 (by decide) ?_
      refine g_icmp_eq (tgt := 57) X dX7_readBlock_39 (by decide) h (fun h => ?_) (fun h => ?_)
      · exact g_sub (lv' := [(0, .ref (r 303))]) [0] rfl (hK6 t5 h)
      · refine g_aload_n X dX7_readBlock_42 0 rfl ?_
        refine g_callOI (rest := []) X (fun u9 h9 => ho_readStatement t5 u9 h9) yy_X7_readStatement yi_X7_readStatement wdM_RX7_215 ⟨_, _, oH_303⟩ rfl rfl rfl (Nat.le_of_ble_eq_true rfl) dX7_readBlock_43 ⟨by show D9 + 204 + 1 ≤ D9 + 1 + 204; omega, by show 8 + (1 + 11) + (60 * D9 + 12088) ≤ 60 * (D9 + 1) + 12088; omega⟩ ⟨rfl, rfl⟩ h (fun v9 t8 h => ?_)
        refine g_if_ne (tgt := 51) X dX7_readBlock_46 (by decide) h (fun h => ?_) (fun h => ?_)
        · refine g_iinc (lv' := [(1, iv (x4 + 1)), (0, .ref (r 303))]) X dX7_readBlock_51 (k := 1) rfl (by decide) rfl ?_
          refine g_goto (tgt := 26) X dX7_readBlock_54 (by decide) ?_
          exact g_sub (lv' := [(0, .ref (r 303)), (1, iv (x4 + 1))]) [1, 0] rfl (ih (x4 + 1) t8 h)
        · refine g_iconst X dX7_readBlock_49 ?_
          exact g_zret X h dX7_readBlock_50
set_option maxHeartbeats 4000000 in
set_option maxRecDepth 100000 in
theorem b_o_X7_readBlock {p : Program} {l : Launch} {e : Env} {s : State} {m : MethodId} {args : Array Value} {below : List Frame} {meth : Method} {c : Code} {E : cE} {A : Nat → Prop} {r : Nat → Nat} {mc ms : Nat} {z : Int × St} {N : Nat} {D9 : Nat} {fo_readStatement : (St → Option (Int × St))} (ho_readStatement : ∀ (t : St) (z : Int × St), fo_readStatement t = some z → cM l E yX7_readStatement cX7_readStatement 1 (some .boolean) (rmS_readBlock D9) [.ref (r 303)] (gW E r shH t) (gqI E (gW E r shH) z)) {t : St} (X : gX p s m meth c cX7_readBlock 2 (some .boolean) yX7_readBlock args E A) (h : o_X7_readBlock N fo_readStatement t = some z) : gP p l e (rmS_readBlock (D9 + 1)) s m args below meth c E A 2 (MQ below ((gqI E (gW E r shH) z) A) args s mc ms A) (gW E r shH) 0 [(0, .ref (r 303))] [] t := by
  unfold o_X7_readBlock at h
  refine g_aload_n X dX7_readBlock_0 0 rfl ?_
  refine g_getI X fH_X7_29_303 rfl dX7_readBlock_1 h (fun v1 h => ?_)
  refine g_bipush X dX7_readBlock_4 (by decide) ?_
  refine g_icmp_eq (tgt := 15) X dX7_readBlock_6 (by decide) h (fun h => ?_) (fun h => ?_)
  · refine g_aload_n X dX7_readBlock_15 0 rfl ?_
    refine g_callOI (rest := []) X (fun u9 h9 => cp_X7_nest l E r N t u9 h9) yy_X7_nest yi_X7_nest wdM_RX7_212 ⟨_, _, oH_303⟩ rfl rfl rfl (Nat.le_of_ble_eq_true rfl) dX7_readBlock_16 ⟨by show 1 + 1 ≤ D9 + 1 + 204; omega, by show 8 + (1 + 11) + 21 ≤ 60 * (D9 + 1) + 12088; omega⟩ ⟨rfl, rfl⟩ h (fun v3 t2 h => ?_)
    refine g_if_ne (tgt := 24) X dX7_readBlock_19 (by decide) h (fun h => ?_) (fun h => ?_)
    · refine g_iconst X dX7_readBlock_24 ?_
      refine g_istore_n (lv' := [(1, iv 0), (0, .ref (r 303))]) X dX7_readBlock_25 rfl (by decide) rfl ?_
      refine g_sub (lv' := [(0, .ref (r 303)), (1, iv 0)]) [1, 0] rfl (t_o_X7_readBlock_L26 X ho_readStatement (fun t10 h => ?_) N 0 t2 h)
      · refine g_aload_n X dX7_readBlock_57 0 rfl ?_
        refine g_dup X rfl dX7_readBlock_58 ?_
        refine g_getI X fH_X7_96_303 rfl dX7_readBlock_59 h (fun v11 h => ?_)
        refine g_iconst X dX7_readBlock_62 ?_
        refine g_isub X dX7_readBlock_63 ?_
        refine g_putI X fH_X7_96_303w rfl dX7_readBlock_64 h (fun t12 h => ?_)
        refine g_aload_n X dX7_readBlock_67 0 rfl ?_
        refine g_bipush X dX7_readBlock_68 (by decide) ?_
        refine g_callOI (rest := []) X (fun u9 h9 => cp_X7_take l E r N 41 t12 u9 h9) yy_X7_take yi_X7_take wdM_RX7_58 ⟨_, _, oH_303⟩ rfl rfl rfl (Nat.le_of_ble_eq_true rfl) dX7_readBlock_70 ⟨by show 1 + 1 ≤ D9 + 1 + 204; omega, by show 8 + (2 + 11) + 21 ≤ 60 * (D9 + 1) + 12088; omega⟩ ⟨rfl, rfl⟩ h (fun v14 t13 h => ?_)
        exact g_zret X h dX7_readBlock_73
    · refine g_iconst X dX7_readBlock_22 ?_
      exact g_zret X h dX7_readBlock_23
  · refine g_aload_n X dX7_readBlock_9 0 rfl ?_
    refine g_iconst X dX7_readBlock_10 ?_
    refine g_callOI (rest := []) X (fun u9 h9 => cp_X7_wrong l E r N 1 t u9 h9) yy_X7_wrong yi_X7_wrong wdM_RX7_48 ⟨_, _, oH_303⟩ rfl rfl rfl (Nat.le_of_ble_eq_true rfl) dX7_readBlock_11 ⟨by show 0 + 1 ≤ D9 + 1 + 204; omega, by show 8 + (2 + 11) + 0 ≤ 60 * (D9 + 1) + 12088; omega⟩ ⟨rfl, rfl⟩ h (fun v16 t15 h => ?_)
    exact g_zret X h dX7_readBlock_14
set_option maxHeartbeats 4000000 in
set_option maxRecDepth 100000 in
theorem cpo_X7_readBlock (l : Launch) (E : cE) (r : Nat → Nat) (N : Nat) (D9 : Nat) (fo_readStatement : (St → Option (Int × St))) (ho_readStatement : ∀ (t : St) (z : Int × St), fo_readStatement t = some z → cM l E yX7_readStatement cX7_readStatement 1 (some .boolean) (rmS_readBlock D9) [.ref (r 303)] (gW E r shH t) (gqI E (gW E r shH) z)) (t : St) (z : Int × St) (h : o_X7_readBlock N fo_readStatement t = some z) : cM l E yX7_readBlock cX7_readBlock 2 (some .boolean) (rmS_readBlock (D9 + 1)) [.ref (r 303)] (gW E r shH t) (gqI E (gW E r shH) z) := by
  refine g_of (w := gW E r shH) (by decide) (Nat.le_of_ble_eq_true rfl) ?_
  intro p e s m below meth c A X
  exact g_sub (lv' := [(0, .ref (r 303))]) [0] rfl (b_o_X7_readBlock ho_readStatement X h)
theorem dX7_readStatement_0 : decode cX7_readStatement 0 = .ok (.aload_n 0, 1) := by decide +kernel
theorem dX7_readStatement_1 : decode cX7_readStatement 1 = .ok (.getfield 29, 3) := by decide +kernel
theorem dX7_readStatement_4 : decode cX7_readStatement 4 = .ok (.tableswitch 69 7 13 #[44, 49, 54, 69, 59, 69, 64], 44) := by decide +kernel
theorem dX7_readStatement_48 : decode cX7_readStatement 48 = .ok (.aload_n 0, 1) := by decide +kernel
theorem dX7_readStatement_49 : decode cX7_readStatement 49 = .ok (.invokevirtual 218, 3) := by decide +kernel
theorem dX7_readStatement_52 : decode cX7_readStatement 52 = .ok (.ireturn, 1) := by decide +kernel
theorem dX7_readStatement_53 : decode cX7_readStatement 53 = .ok (.aload_n 0, 1) := by decide +kernel
theorem dX7_readStatement_54 : decode cX7_readStatement 54 = .ok (.invokevirtual 221, 3) := by decide +kernel
theorem dX7_readStatement_57 : decode cX7_readStatement 57 = .ok (.ireturn, 1) := by decide +kernel
theorem dX7_readStatement_58 : decode cX7_readStatement 58 = .ok (.aload_n 0, 1) := by decide +kernel
theorem dX7_readStatement_59 : decode cX7_readStatement 59 = .ok (.invokevirtual 224, 3) := by decide +kernel
theorem dX7_readStatement_62 : decode cX7_readStatement 62 = .ok (.ireturn, 1) := by decide +kernel
theorem dX7_readStatement_63 : decode cX7_readStatement 63 = .ok (.aload_n 0, 1) := by decide +kernel
theorem dX7_readStatement_64 : decode cX7_readStatement 64 = .ok (.invokevirtual 227, 3) := by decide +kernel
theorem dX7_readStatement_67 : decode cX7_readStatement 67 = .ok (.ireturn, 1) := by decide +kernel
theorem dX7_readStatement_68 : decode cX7_readStatement 68 = .ok (.aload_n 0, 1) := by decide +kernel
theorem dX7_readStatement_69 : decode cX7_readStatement 69 = .ok (.invokevirtual 230, 3) := by decide +kernel
theorem dX7_readStatement_72 : decode cX7_readStatement 72 = .ok (.ireturn, 1) := by decide +kernel
theorem dX7_readStatement_73 : decode cX7_readStatement 73 = .ok (.aload_n 0, 1) := by decide +kernel
theorem dX7_readStatement_74 : decode cX7_readStatement 74 = .ok (.invokevirtual 55, 3) := by decide +kernel
theorem dX7_readStatement_77 : decode cX7_readStatement 77 = .ok (.ifCond .eq 16, 3) := by decide +kernel
theorem dX7_readStatement_80 : decode cX7_readStatement 80 = .ok (.aload_n 0, 1) := by decide +kernel
theorem dX7_readStatement_81 : decode cX7_readStatement 81 = .ok (.bipush 45, 2) := by decide +kernel
theorem dX7_readStatement_83 : decode cX7_readStatement 83 = .ok (.invokevirtual 58, 3) := by decide +kernel
theorem dX7_readStatement_86 : decode cX7_readStatement 86 = .ok (.ifCond .eq 7, 3) := by decide +kernel
theorem dX7_readStatement_89 : decode cX7_readStatement 89 = .ok (.iconst 1, 1) := by decide +kernel
theorem dX7_readStatement_90 : decode cX7_readStatement 90 = .ok (.goto 4, 3) := by decide +kernel
theorem dX7_readStatement_93 : decode cX7_readStatement 93 = .ok (.iconst 0, 1) := by decide +kernel
theorem dX7_readStatement_94 : decode cX7_readStatement 94 = .ok (.ireturn, 1) := by decide +kernel
def o_X7_readStatement (N : Nat) (fo_readRepeat : (St → Option (Int × St))) (fo_readUntil : (St → Option (Int × St))) (fo_readIf : (St → Option (Int × St))) (fo_readFor : (St → Option (Int × St))) (t : St) : Option (Int × St) :=
    lt1 (t.1 303 3) fun v1 =>
    rnI v1 (if v1 = 7 then (bdI (f_X7_readDo N t) fun v3 t2 =>
    boI v3 (some (v3, t2)))
    else (if v1 = 8 then (bdI (fo_readRepeat t) fun v5 t4 =>
    boI v5 (some (v5, t4)))
    else (if v1 = 9 then (bdI (fo_readUntil t) fun v7 t6 =>
    boI v7 (some (v7, t6)))
    else (if v1 = 10 then (bdI (f_X7_readStep N t) fun v9 t8 =>
    cmpI v9 0 (if v9 = 0 then (boI 0 (some (0, t8)))
    else (bdI (f_X7_take N 45 t8) fun v11 t10 =>
    cmpI v11 0 (if v11 = 0 then (boI 0 (some (0, t10)))
    else (boI 1 (some (1, t10)))))))
    else (if v1 = 11 then (bdI (fo_readIf t) fun v13 t12 =>
    boI v13 (some (v13, t12)))
    else (if v1 = 12 then (bdI (f_X7_readStep N t) fun v15 t14 =>
    cmpI v15 0 (if v15 = 0 then (boI 0 (some (0, t14)))
    else (bdI (f_X7_take N 45 t14) fun v17 t16 =>
    cmpI v17 0 (if v17 = 0 then (boI 0 (some (0, t16)))
    else (boI 1 (some (1, t16)))))))
    else (if v1 = 13 then (bdI (fo_readFor t) fun v19 t18 =>
    boI v19 (some (v19, t18)))
    else (bdI (f_X7_readStep N t) fun v21 t20 =>
    cmpI v21 0 (if v21 = 0 then (boI 0 (some (0, t20)))
    else (bdI (f_X7_take N 45 t20) fun v23 t22 =>
    cmpI v23 0 (if v23 = 0 then (boI 0 (some (0, t22)))
    else (boI 1 (some (1, t22))))))))))))))
set_option maxHeartbeats 4000000 in
set_option maxRecDepth 100000 in
theorem b_o_X7_readStatement {p : Program} {l : Launch} {e : Env} {s : State} {m : MethodId} {args : Array Value} {below : List Frame} {meth : Method} {c : Code} {E : cE} {A : Nat → Prop} {r : Nat → Nat} {mc ms : Nat} {z : Int × St} {N : Nat} {D9 : Nat} {fo_readRepeat : (St → Option (Int × St))} {fo_readUntil : (St → Option (Int × St))} {fo_readIf : (St → Option (Int × St))} {fo_readFor : (St → Option (Int × St))} (ho_readRepeat : ∀ (t : St) (z : Int × St), fo_readRepeat t = some z → cM l E yX7_readRepeat cX7_readRepeat 2 (some .boolean) (rmS_readBlock D9) [.ref (r 303)] (gW E r shH t) (gqI E (gW E r shH) z)) (ho_readUntil : ∀ (t : St) (z : Int × St), fo_readUntil t = some z → cM l E yX7_readUntil cX7_readUntil 5 (some .boolean) (rmS_readBlock D9) [.ref (r 303)] (gW E r shH t) (gqI E (gW E r shH) z)) (ho_readIf : ∀ (t : St) (z : Int × St), fo_readIf t = some z → cM l E yX7_readIf cX7_readIf 4 (some .boolean) (rmS_readBlock D9) [.ref (r 303)] (gW E r shH t) (gqI E (gW E r shH) z)) (ho_readFor : ∀ (t : St) (z : Int × St), fo_readFor t = some z → cM l E yX7_readFor cX7_readFor 2 (some .boolean) (rmS_readBlock D9) [.ref (r 303)] (gW E r shH t) (gqI E (gW E r shH) z)) {t : St} (X : gX p s m meth c cX7_readStatement 1 (some .boolean) yX7_readStatement args E A) (h : o_X7_readStatement N fo_readRepeat fo_readUntil fo_readIf fo_readFor t = some z) : gP p l e (rmS_readBlock (D9 + 1)) s m args below meth c E A 1 (MQ below ((gqI E (gW E r shH) z) A) args s mc ms A) (gW E r shH) 0 [(0, .ref (r 303))] [] t := by
  unfold o_X7_readStatement at h
  refine g_aload_n X dX7_readStatement_0 0 rfl ?_
  refine g_getI X fH_X7_29_303 rfl dX7_readStatement_1 h (fun v1 h => ?_)
  obtain ⟨hr9, h⟩ := rnI_some h
  by_cases e9_7 : v1 = 7
  · rw [if_pos e9_7] at h
    refine g_tableIn X (tgt := 48) (off := 44) dX7_readStatement_4 (k := 7) hr9 e9_7 (by decide) (by decide) rfl (by decide) ?_
    refine g_aload_n X dX7_readStatement_48 0 rfl ?_
    refine g_callOI (rest := []) X (fun u9 h9 => cp_X7_readDo l E r N t u9 h9) yy_X7_readDo yi_X7_readDo wdM_RX7_218 ⟨_, _, oH_303⟩ rfl rfl rfl (Nat.le_of_ble_eq_true rfl) dX7_readStatement_49 ⟨by show 2 + 1 ≤ D9 + 1 + 204; omega, by show 8 + (1 + 11) + 44 ≤ 60 * (D9 + 1) + 12088; omega⟩ ⟨rfl, rfl⟩ h (fun v3 t2 h => ?_)
    exact g_zret X h dX7_readStatement_52
  · rw [if_neg e9_7] at h
    by_cases e9_8 : v1 = 8
    · rw [if_pos e9_8] at h
      refine g_tableIn X (tgt := 53) (off := 49) dX7_readStatement_4 (k := 8) hr9 e9_8 (by decide) (by decide) rfl (by decide) ?_
      refine g_aload_n X dX7_readStatement_53 0 rfl ?_
      refine g_callOI (rest := []) X (fun u9 h9 => ho_readRepeat t u9 h9) yy_X7_readRepeat yi_X7_readRepeat wdM_RX7_221 ⟨_, _, oH_303⟩ rfl rfl rfl (Nat.le_of_ble_eq_true rfl) dX7_readStatement_54 ⟨by show D9 + 204 + 1 ≤ D9 + 1 + 204; omega, by show 8 + (2 + 11) + (60 * D9 + 12088) ≤ 60 * (D9 + 1) + 12088; omega⟩ ⟨rfl, rfl⟩ h (fun v5 t4 h => ?_)
      exact g_zret X h dX7_readStatement_57
    · rw [if_neg e9_8] at h
      by_cases e9_9 : v1 = 9
      · rw [if_pos e9_9] at h
        refine g_tableIn X (tgt := 58) (off := 54) dX7_readStatement_4 (k := 9) hr9 e9_9 (by decide) (by decide) rfl (by decide) ?_
        refine g_aload_n X dX7_readStatement_58 0 rfl ?_
        refine g_callOI (rest := []) X (fun u9 h9 => ho_readUntil t u9 h9) yy_X7_readUntil yi_X7_readUntil wdM_RX7_224 ⟨_, _, oH_303⟩ rfl rfl rfl (Nat.le_of_ble_eq_true rfl) dX7_readStatement_59 ⟨by show D9 + 204 + 1 ≤ D9 + 1 + 204; omega, by show 8 + (5 + 11) + (60 * D9 + 12088) ≤ 60 * (D9 + 1) + 12088; omega⟩ ⟨rfl, rfl⟩ h (fun v7 t6 h => ?_)
        exact g_zret X h dX7_readStatement_62
      · rw [if_neg e9_9] at h
        by_cases e9_10 : v1 = 10
        · rw [if_pos e9_10] at h
          refine g_tableIn X (tgt := 73) (off := 69) dX7_readStatement_4 (k := 10) hr9 e9_10 (by decide) (by decide) rfl (by decide) ?_
          refine g_aload_n X dX7_readStatement_73 0 rfl ?_
          refine g_callOI (rest := []) X (fun u9 h9 => cp_X7_readStep l E r N t u9 h9) yy_X7_readStep yi_X7_readStep wdM_RX7_55 ⟨_, _, oH_303⟩ rfl rfl rfl (Nat.le_of_ble_eq_true rfl) dX7_readStatement_74 ⟨by show 203 + 1 ≤ D9 + 1 + 204; omega, by show 8 + (2 + 11) + 12067 ≤ 60 * (D9 + 1) + 12088; omega⟩ ⟨rfl, rfl⟩ h (fun v9 t8 h => ?_)
          refine g_if_eq (tgt := 93) X dX7_readStatement_77 (by decide) h (fun h => ?_) (fun h => ?_)
          · refine g_iconst X dX7_readStatement_93 ?_
            exact g_zret X h dX7_readStatement_94
          · refine g_aload_n X dX7_readStatement_80 0 rfl ?_
            refine g_bipush X dX7_readStatement_81 (by decide) ?_
            refine g_callOI (rest := []) X (fun u9 h9 => cp_X7_take l E r N 45 t8 u9 h9) yy_X7_take yi_X7_take wdM_RX7_58 ⟨_, _, oH_303⟩ rfl rfl rfl (Nat.le_of_ble_eq_true rfl) dX7_readStatement_83 ⟨by show 1 + 1 ≤ D9 + 1 + 204; omega, by show 8 + (2 + 11) + 21 ≤ 60 * (D9 + 1) + 12088; omega⟩ ⟨rfl, rfl⟩ h (fun v11 t10 h => ?_)
            refine g_if_eq (tgt := 93) X dX7_readStatement_86 (by decide) h (fun h => ?_) (fun h => ?_)
            · refine g_iconst X dX7_readStatement_93 ?_
              exact g_zret X h dX7_readStatement_94
            · refine g_iconst X dX7_readStatement_89 ?_
              refine g_goto (tgt := 94) X dX7_readStatement_90 (by decide) ?_
              exact g_zret X h dX7_readStatement_94
        · rw [if_neg e9_10] at h
          by_cases e9_11 : v1 = 11
          · rw [if_pos e9_11] at h
            refine g_tableIn X (tgt := 63) (off := 59) dX7_readStatement_4 (k := 11) hr9 e9_11 (by decide) (by decide) rfl (by decide) ?_
            refine g_aload_n X dX7_readStatement_63 0 rfl ?_
            refine g_callOI (rest := []) X (fun u9 h9 => ho_readIf t u9 h9) yy_X7_readIf yi_X7_readIf wdM_RX7_227 ⟨_, _, oH_303⟩ rfl rfl rfl (Nat.le_of_ble_eq_true rfl) dX7_readStatement_64 ⟨by show D9 + 204 + 1 ≤ D9 + 1 + 204; omega, by show 8 + (4 + 11) + (60 * D9 + 12088) ≤ 60 * (D9 + 1) + 12088; omega⟩ ⟨rfl, rfl⟩ h (fun v13 t12 h => ?_)
            exact g_zret X h dX7_readStatement_67
          · rw [if_neg e9_11] at h
            by_cases e9_12 : v1 = 12
            · rw [if_pos e9_12] at h
              refine g_tableIn X (tgt := 73) (off := 69) dX7_readStatement_4 (k := 12) hr9 e9_12 (by decide) (by decide) rfl (by decide) ?_
              refine g_aload_n X dX7_readStatement_73 0 rfl ?_
              refine g_callOI (rest := []) X (fun u9 h9 => cp_X7_readStep l E r N t u9 h9) yy_X7_readStep yi_X7_readStep wdM_RX7_55 ⟨_, _, oH_303⟩ rfl rfl rfl (Nat.le_of_ble_eq_true rfl) dX7_readStatement_74 ⟨by show 203 + 1 ≤ D9 + 1 + 204; omega, by show 8 + (2 + 11) + 12067 ≤ 60 * (D9 + 1) + 12088; omega⟩ ⟨rfl, rfl⟩ h (fun v15 t14 h => ?_)
              refine g_if_eq (tgt := 93) X dX7_readStatement_77 (by decide) h (fun h => ?_) (fun h => ?_)
              · refine g_iconst X dX7_readStatement_93 ?_
                exact g_zret X h dX7_readStatement_94
              · refine g_aload_n X dX7_readStatement_80 0 rfl ?_
                refine g_bipush X dX7_readStatement_81 (by decide) ?_
                refine g_callOI (rest := []) X (fun u9 h9 => cp_X7_take l E r N 45 t14 u9 h9) yy_X7_take yi_X7_take wdM_RX7_58 ⟨_, _, oH_303⟩ rfl rfl rfl (Nat.le_of_ble_eq_true rfl) dX7_readStatement_83 ⟨by show 1 + 1 ≤ D9 + 1 + 204; omega, by show 8 + (2 + 11) + 21 ≤ 60 * (D9 + 1) + 12088; omega⟩ ⟨rfl, rfl⟩ h (fun v17 t16 h => ?_)
                refine g_if_eq (tgt := 93) X dX7_readStatement_86 (by decide) h (fun h => ?_) (fun h => ?_)
                · refine g_iconst X dX7_readStatement_93 ?_
                  exact g_zret X h dX7_readStatement_94
                · refine g_iconst X dX7_readStatement_89 ?_
                  refine g_goto (tgt := 94) X dX7_readStatement_90 (by decide) ?_
                  exact g_zret X h dX7_readStatement_94
            · rw [if_neg e9_12] at h
              by_cases e9_13 : v1 = 13
              · rw [if_pos e9_13] at h
                refine g_tableIn X (tgt := 68) (off := 64) dX7_readStatement_4 (k := 13) hr9 e9_13 (by decide) (by decide) rfl (by decide) ?_
                refine g_aload_n X dX7_readStatement_68 0 rfl ?_
                refine g_callOI (rest := []) X (fun u9 h9 => ho_readFor t u9 h9) yy_X7_readFor yi_X7_readFor wdM_RX7_230 ⟨_, _, oH_303⟩ rfl rfl rfl (Nat.le_of_ble_eq_true rfl) dX7_readStatement_69 ⟨by show D9 + 204 + 1 ≤ D9 + 1 + 204; omega, by show 8 + (2 + 11) + (60 * D9 + 12088) ≤ 60 * (D9 + 1) + 12088; omega⟩ ⟨rfl, rfl⟩ h (fun v19 t18 h => ?_)
                exact g_zret X h dX7_readStatement_72
              · rw [if_neg e9_13] at h
                refine g_tableOut X (tgt := 73) dX7_readStatement_4 hr9 (by omega) (by decide) ?_
                refine g_aload_n X dX7_readStatement_73 0 rfl ?_
                refine g_callOI (rest := []) X (fun u9 h9 => cp_X7_readStep l E r N t u9 h9) yy_X7_readStep yi_X7_readStep wdM_RX7_55 ⟨_, _, oH_303⟩ rfl rfl rfl (Nat.le_of_ble_eq_true rfl) dX7_readStatement_74 ⟨by show 203 + 1 ≤ D9 + 1 + 204; omega, by show 8 + (2 + 11) + 12067 ≤ 60 * (D9 + 1) + 12088; omega⟩ ⟨rfl, rfl⟩ h (fun v21 t20 h => ?_)
                refine g_if_eq (tgt := 93) X dX7_readStatement_77 (by decide) h (fun h => ?_) (fun h => ?_)
                · refine g_iconst X dX7_readStatement_93 ?_
                  exact g_zret X h dX7_readStatement_94
                · refine g_aload_n X dX7_readStatement_80 0 rfl ?_
                  refine g_bipush X dX7_readStatement_81 (by decide) ?_
                  refine g_callOI (rest := []) X (fun u9 h9 => cp_X7_take l E r N 45 t20 u9 h9) yy_X7_take yi_X7_take wdM_RX7_58 ⟨_, _, oH_303⟩ rfl rfl rfl (Nat.le_of_ble_eq_true rfl) dX7_readStatement_83 ⟨by show 1 + 1 ≤ D9 + 1 + 204; omega, by show 8 + (2 + 11) + 21 ≤ 60 * (D9 + 1) + 12088; omega⟩ ⟨rfl, rfl⟩ h (fun v23 t22 h => ?_)
                  refine g_if_eq (tgt := 93) X dX7_readStatement_86 (by decide) h (fun h => ?_) (fun h => ?_)
                  · refine g_iconst X dX7_readStatement_93 ?_
                    exact g_zret X h dX7_readStatement_94
                  · refine g_iconst X dX7_readStatement_89 ?_
                    refine g_goto (tgt := 94) X dX7_readStatement_90 (by decide) ?_
                    exact g_zret X h dX7_readStatement_94
set_option maxHeartbeats 4000000 in
set_option maxRecDepth 100000 in
theorem cpo_X7_readStatement (l : Launch) (E : cE) (r : Nat → Nat) (N : Nat) (D9 : Nat) (fo_readRepeat : (St → Option (Int × St))) (fo_readUntil : (St → Option (Int × St))) (fo_readIf : (St → Option (Int × St))) (fo_readFor : (St → Option (Int × St))) (ho_readRepeat : ∀ (t : St) (z : Int × St), fo_readRepeat t = some z → cM l E yX7_readRepeat cX7_readRepeat 2 (some .boolean) (rmS_readBlock D9) [.ref (r 303)] (gW E r shH t) (gqI E (gW E r shH) z)) (ho_readUntil : ∀ (t : St) (z : Int × St), fo_readUntil t = some z → cM l E yX7_readUntil cX7_readUntil 5 (some .boolean) (rmS_readBlock D9) [.ref (r 303)] (gW E r shH t) (gqI E (gW E r shH) z)) (ho_readIf : ∀ (t : St) (z : Int × St), fo_readIf t = some z → cM l E yX7_readIf cX7_readIf 4 (some .boolean) (rmS_readBlock D9) [.ref (r 303)] (gW E r shH t) (gqI E (gW E r shH) z)) (ho_readFor : ∀ (t : St) (z : Int × St), fo_readFor t = some z → cM l E yX7_readFor cX7_readFor 2 (some .boolean) (rmS_readBlock D9) [.ref (r 303)] (gW E r shH t) (gqI E (gW E r shH) z)) (t : St) (z : Int × St) (h : o_X7_readStatement N fo_readRepeat fo_readUntil fo_readIf fo_readFor t = some z) : cM l E yX7_readStatement cX7_readStatement 1 (some .boolean) (rmS_readBlock (D9 + 1)) [.ref (r 303)] (gW E r shH t) (gqI E (gW E r shH) z) := by
  refine g_of (w := gW E r shH) (by decide) (Nat.le_of_ble_eq_true rfl) ?_
  intro p e s m below meth c A X
  exact g_sub (lv' := [(0, .ref (r 303))]) [0] rfl (b_o_X7_readStatement ho_readRepeat ho_readUntil ho_readIf ho_readFor X h)
theorem dX7_readRepeat_0 : decode cX7_readRepeat 0 = .ok (.aload_n 0, 1) := by decide +kernel
theorem dX7_readRepeat_1 : decode cX7_readRepeat 1 = .ok (.invokevirtual 127, 3) := by decide +kernel
theorem dX7_readRepeat_4 : decode cX7_readRepeat 4 = .ok (.ifCond .eq 13, 3) := by decide +kernel
theorem dX7_readRepeat_7 : decode cX7_readRepeat 7 = .ok (.aload_n 0, 1) := by decide +kernel
theorem dX7_readRepeat_8 : decode cX7_readRepeat 8 = .ok (.iconst 1, 1) := by decide +kernel
theorem dX7_readRepeat_9 : decode cX7_readRepeat 9 = .ok (.bipush 64, 2) := by decide +kernel
theorem dX7_readRepeat_11 : decode cX7_readRepeat 11 = .ok (.invokevirtual 171, 3) := by decide +kernel
theorem dX7_readRepeat_14 : decode cX7_readRepeat 14 = .ok (.ifCond .ne 5, 3) := by decide +kernel
theorem dX7_readRepeat_17 : decode cX7_readRepeat 17 = .ok (.iconst 0, 1) := by decide +kernel
theorem dX7_readRepeat_18 : decode cX7_readRepeat 18 = .ok (.ireturn, 1) := by decide +kernel
theorem dX7_readRepeat_19 : decode cX7_readRepeat 19 = .ok (.aload_n 0, 1) := by decide +kernel
theorem dX7_readRepeat_20 : decode cX7_readRepeat 20 = .ok (.getfield 19, 3) := by decide +kernel
theorem dX7_readRepeat_23 : decode cX7_readRepeat 23 = .ok (.bipush 20, 2) := by decide +kernel
theorem dX7_readRepeat_25 : decode cX7_readRepeat 25 = .ok (.aload_n 0, 1) := by decide +kernel
theorem dX7_readRepeat_26 : decode cX7_readRepeat 26 = .ok (.getfield 130, 3) := by decide +kernel
theorem dX7_readRepeat_29 : decode cX7_readRepeat 29 = .ok (.invokevirtual 199, 3) := by decide +kernel
theorem dX7_readRepeat_32 : decode cX7_readRepeat 32 = .ok (.pop, 1) := by decide +kernel
theorem dX7_readRepeat_33 : decode cX7_readRepeat 33 = .ok (.aload_n 0, 1) := by decide +kernel
theorem dX7_readRepeat_34 : decode cX7_readRepeat 34 = .ok (.getfield 19, 3) := by decide +kernel
theorem dX7_readRepeat_37 : decode cX7_readRepeat 37 = .ok (.bipush 21, 2) := by decide +kernel
theorem dX7_readRepeat_39 : decode cX7_readRepeat 39 = .ok (.iconst 0, 1) := by decide +kernel
theorem dX7_readRepeat_40 : decode cX7_readRepeat 40 = .ok (.invokevirtual 199, 3) := by decide +kernel
theorem dX7_readRepeat_43 : decode cX7_readRepeat 43 = .ok (.istore_n 1, 1) := by decide +kernel
theorem dX7_readRepeat_44 : decode cX7_readRepeat 44 = .ok (.aload_n 0, 1) := by decide +kernel
theorem dX7_readRepeat_45 : decode cX7_readRepeat 45 = .ok (.invokevirtual 196, 3) := by decide +kernel
theorem dX7_readRepeat_48 : decode cX7_readRepeat 48 = .ok (.ifCond .ne 5, 3) := by decide +kernel
theorem dX7_readRepeat_51 : decode cX7_readRepeat 51 = .ok (.iconst 0, 1) := by decide +kernel
theorem dX7_readRepeat_52 : decode cX7_readRepeat 52 = .ok (.ireturn, 1) := by decide +kernel
theorem dX7_readRepeat_53 : decode cX7_readRepeat 53 = .ok (.aload_n 0, 1) := by decide +kernel
theorem dX7_readRepeat_54 : decode cX7_readRepeat 54 = .ok (.getfield 19, 3) := by decide +kernel
theorem dX7_readRepeat_57 : decode cX7_readRepeat 57 = .ok (.bipush 26, 2) := by decide +kernel
theorem dX7_readRepeat_59 : decode cX7_readRepeat 59 = .ok (.iload_n 1, 1) := by decide +kernel
theorem dX7_readRepeat_60 : decode cX7_readRepeat 60 = .ok (.invokevirtual 199, 3) := by decide +kernel
theorem dX7_readRepeat_63 : decode cX7_readRepeat 63 = .ok (.pop, 1) := by decide +kernel
theorem dX7_readRepeat_64 : decode cX7_readRepeat 64 = .ok (.aload_n 0, 1) := by decide +kernel
theorem dX7_readRepeat_65 : decode cX7_readRepeat 65 = .ok (.getfield 19, 3) := by decide +kernel
theorem dX7_readRepeat_68 : decode cX7_readRepeat 68 = .ok (.iload_n 1, 1) := by decide +kernel
theorem dX7_readRepeat_69 : decode cX7_readRepeat 69 = .ok (.aload_n 0, 1) := by decide +kernel
theorem dX7_readRepeat_70 : decode cX7_readRepeat 70 = .ok (.getfield 19, 3) := by decide +kernel
theorem dX7_readRepeat_73 : decode cX7_readRepeat 73 = .ok (.getfield 119, 3) := by decide +kernel
theorem dX7_readRepeat_76 : decode cX7_readRepeat 76 = .ok (.invokevirtual 233, 3) := by decide +kernel
theorem dX7_readRepeat_79 : decode cX7_readRepeat 79 = .ok (.iconst 1, 1) := by decide +kernel
theorem dX7_readRepeat_80 : decode cX7_readRepeat 80 = .ok (.ireturn, 1) := by decide +kernel
def o_X7_readRepeat (N : Nat) (fo_readBlock : (St → Option (Int × St))) (t : St) : Option (Int × St) :=
    bdI (f_X7_pass N t) fun v2 t1 =>
    cmpI v2 0 (if v2 = 0 then (boI 0 (some (0, t1)))
    else (bdI (f_X7_takeNumber N 1 64 t1) fun v4 t3 =>
    cmpI v4 0 (if v4 = 0 then (boI 0 (some (0, t3)))
    else (lt1 (t3.1 303 8) fun v5 =>
    bdI (f_X0_put N 20 v5 t3) fun v7 t6 =>
    bdI (f_X0_put N 21 0 t6) fun v9 t8 =>
    bdI (fo_readBlock t8) fun v11 t10 =>
    cmpI v11 0 (if v11 = 0 then (boI 0 (some (0, t10)))
    else (bdI (f_X0_put N 26 v9 t10) fun v13 t12 =>
    lt1 (t12.1 302 18) fun v14 =>
    bdV (f_X0_patch N v9 v14 t12) fun t15 =>
    boI 1 (some (1, t15))))))))
set_option maxHeartbeats 4000000 in
set_option maxRecDepth 100000 in
theorem b_o_X7_readRepeat {p : Program} {l : Launch} {e : Env} {s : State} {m : MethodId} {args : Array Value} {below : List Frame} {meth : Method} {c : Code} {E : cE} {A : Nat → Prop} {r : Nat → Nat} {mc ms : Nat} {z : Int × St} {N : Nat} {D9 : Nat} {fo_readBlock : (St → Option (Int × St))} (ho_readBlock : ∀ (t : St) (z : Int × St), fo_readBlock t = some z → cM l E yX7_readBlock cX7_readBlock 2 (some .boolean) (rmS_readBlock D9) [.ref (r 303)] (gW E r shH t) (gqI E (gW E r shH) z)) {t : St} (X : gX p s m meth c cX7_readRepeat 2 (some .boolean) yX7_readRepeat args E A) (h : o_X7_readRepeat N fo_readBlock t = some z) : gP p l e (rmS_readBlock (D9 + 1)) s m args below meth c E A 2 (MQ below ((gqI E (gW E r shH) z) A) args s mc ms A) (gW E r shH) 0 [(0, .ref (r 303))] [] t := by
  unfold o_X7_readRepeat at h
  refine g_aload_n X dX7_readRepeat_0 0 rfl ?_
  refine g_callOI (rest := []) X (fun u9 h9 => cp_X7_pass l E r N t u9 h9) yy_X7_pass yi_X7_pass wdM_RX7_127 ⟨_, _, oH_303⟩ rfl rfl rfl (Nat.le_of_ble_eq_true rfl) dX7_readRepeat_1 ⟨by show 0 + 1 ≤ D9 + 1 + 204; omega, by show 8 + (2 + 11) + 0 ≤ 60 * (D9 + 1) + 12088; omega⟩ ⟨rfl, rfl⟩ h (fun v2 t1 h => ?_)
  refine g_if_eq (tgt := 17) X dX7_readRepeat_4 (by decide) h (fun h => ?_) (fun h => ?_)
  · refine g_iconst X dX7_readRepeat_17 ?_
    exact g_zret X h dX7_readRepeat_18
  · refine g_aload_n X dX7_readRepeat_7 0 rfl ?_
    refine g_iconst X dX7_readRepeat_8 ?_
    refine g_bipush X dX7_readRepeat_9 (by decide) ?_
    refine g_callOI (rest := []) X (fun u9 h9 => cp_X7_takeNumber l E r N 1 64 t1 u9 h9) yy_X7_takeNumber yi_X7_takeNumber wdM_RX7_171 ⟨_, _, oH_303⟩ rfl rfl rfl (Nat.le_of_ble_eq_true rfl) dX7_readRepeat_11 ⟨by show 1 + 1 ≤ D9 + 1 + 204; omega, by show 8 + (4 + 11) + 22 ≤ 60 * (D9 + 1) + 12088; omega⟩ ⟨rfl, rfl⟩ h (fun v4 t3 h => ?_)
    refine g_if_ne (tgt := 19) X dX7_readRepeat_14 (by decide) h (fun h => ?_) (fun h => ?_)
    · refine g_aload_n X dX7_readRepeat_19 0 rfl ?_
      refine g_getR X fH_X7_19_303 rfl dX7_readRepeat_20 ?_
      refine g_bipush X dX7_readRepeat_23 (by decide) ?_
      refine g_aload_n X dX7_readRepeat_25 0 rfl ?_
      refine g_getI X fH_X7_130_303 rfl dX7_readRepeat_26 h (fun v5 h => ?_)
      refine g_callOI (rest := []) X (fun u9 h9 => cp_X0_put l E r N 20 v5 t3 u9 h9) yy_X0_put yi_X0_put wdM_RX7_199 ⟨_, _, oH_302⟩ rfl rfl rfl (Nat.le_of_ble_eq_true rfl) dX7_readRepeat_29 ⟨by show 0 + 1 ≤ D9 + 1 + 204; omega, by show 8 + (4 + 11) + 0 ≤ 60 * (D9 + 1) + 12088; omega⟩ ⟨rfl, rfl⟩ h (fun v7 t6 h => ?_)
      refine g_pop X rfl dX7_readRepeat_32 ?_
      refine g_aload_n X dX7_readRepeat_33 0 rfl ?_
      refine g_getR X fH_X7_19_303 rfl dX7_readRepeat_34 ?_
      refine g_bipush X dX7_readRepeat_37 (by decide) ?_
      refine g_iconst X dX7_readRepeat_39 ?_
      refine g_callOI (rest := []) X (fun u9 h9 => cp_X0_put l E r N 21 0 t6 u9 h9) yy_X0_put yi_X0_put wdM_RX7_199 ⟨_, _, oH_302⟩ rfl rfl rfl (Nat.le_of_ble_eq_true rfl) dX7_readRepeat_40 ⟨by show 0 + 1 ≤ D9 + 1 + 204; omega, by show 8 + (4 + 11) + 0 ≤ 60 * (D9 + 1) + 12088; omega⟩ ⟨rfl, rfl⟩ h (fun v9 t8 h => ?_)
      refine g_istore_n (lv' := [(1, iv v9), (0, .ref (r 303))]) X dX7_readRepeat_43 rfl (by decide) rfl ?_
      refine g_aload_n X dX7_readRepeat_44 1 rfl ?_
      refine g_callOI (rest := []) X (fun u9 h9 => ho_readBlock t8 u9 h9) yy_X7_readBlock yi_X7_readBlock wdM_RX7_196 ⟨_, _, oH_303⟩ rfl rfl rfl (Nat.le_of_ble_eq_true rfl) dX7_readRepeat_45 ⟨by show D9 + 204 + 1 ≤ D9 + 1 + 204; omega, by show 8 + (2 + 11) + (60 * D9 + 12088) ≤ 60 * (D9 + 1) + 12088; omega⟩ ⟨rfl, rfl⟩ h (fun v11 t10 h => ?_)
      refine g_if_ne (tgt := 53) X dX7_readRepeat_48 (by decide) h (fun h => ?_) (fun h => ?_)
      · refine g_aload_n X dX7_readRepeat_53 1 rfl ?_
        refine g_getR X fH_X7_19_303 rfl dX7_readRepeat_54 ?_
        refine g_bipush X dX7_readRepeat_57 (by decide) ?_
        refine g_iload_n X dX7_readRepeat_59 0 rfl ?_
        refine g_callOI (rest := []) X (fun u9 h9 => cp_X0_put l E r N 26 v9 t10 u9 h9) yy_X0_put yi_X0_put wdM_RX7_199 ⟨_, _, oH_302⟩ rfl rfl rfl (Nat.le_of_ble_eq_true rfl) dX7_readRepeat_60 ⟨by show 0 + 1 ≤ D9 + 1 + 204; omega, by show 8 + (4 + 11) + 0 ≤ 60 * (D9 + 1) + 12088; omega⟩ ⟨rfl, rfl⟩ h (fun v13 t12 h => ?_)
        refine g_pop X rfl dX7_readRepeat_63 ?_
        refine g_aload_n X dX7_readRepeat_64 1 rfl ?_
        refine g_getR X fH_X7_19_303 rfl dX7_readRepeat_65 ?_
        refine g_iload_n X dX7_readRepeat_68 0 rfl ?_
        refine g_aload_n X dX7_readRepeat_69 1 rfl ?_
        refine g_getR X fH_X7_19_303 rfl dX7_readRepeat_70 ?_
        refine g_getI X fH_X7_119_302 rfl dX7_readRepeat_73 h (fun v14 h => ?_)
        refine g_callOV (rest := []) X (fun u9 h9 => cp_X0_patch l E r N v9 v14 t12 u9 h9) yy_X0_patch yi_X0_patch wdM_RX7_233 ⟨_, _, oH_302⟩ rfl rfl rfl (Nat.le_of_ble_eq_true rfl) dX7_readRepeat_76 ⟨by show 1 + 1 ≤ D9 + 1 + 204; omega, by show 8 + (3 + 11) + 21 ≤ 60 * (D9 + 1) + 12088; omega⟩ ⟨rfl, rfl⟩ h (fun t15 h => ?_)
        refine g_iconst X dX7_readRepeat_79 ?_
        exact g_zret X h dX7_readRepeat_80
      · refine g_iconst X dX7_readRepeat_51 ?_
        exact g_zret X h dX7_readRepeat_52
    · refine g_iconst X dX7_readRepeat_17 ?_
      exact g_zret X h dX7_readRepeat_18
set_option maxHeartbeats 4000000 in
set_option maxRecDepth 100000 in
theorem cpo_X7_readRepeat (l : Launch) (E : cE) (r : Nat → Nat) (N : Nat) (D9 : Nat) (fo_readBlock : (St → Option (Int × St))) (ho_readBlock : ∀ (t : St) (z : Int × St), fo_readBlock t = some z → cM l E yX7_readBlock cX7_readBlock 2 (some .boolean) (rmS_readBlock D9) [.ref (r 303)] (gW E r shH t) (gqI E (gW E r shH) z)) (t : St) (z : Int × St) (h : o_X7_readRepeat N fo_readBlock t = some z) : cM l E yX7_readRepeat cX7_readRepeat 2 (some .boolean) (rmS_readBlock (D9 + 1)) [.ref (r 303)] (gW E r shH t) (gqI E (gW E r shH) z) := by
  refine g_of (w := gW E r shH) (by decide) (Nat.le_of_ble_eq_true rfl) ?_
  intro p e s m below meth c A X
  exact g_sub (lv' := [(0, .ref (r 303))]) [0] rfl (b_o_X7_readRepeat ho_readBlock X h)
theorem dX7_readUntil_0 : decode cX7_readUntil 0 = .ok (.aload_n 0, 1) := by decide +kernel
theorem dX7_readUntil_1 : decode cX7_readUntil 1 = .ok (.getfield 19, 3) := by decide +kernel
theorem dX7_readUntil_4 : decode cX7_readUntil 4 = .ok (.bipush 20, 2) := by decide +kernel
theorem dX7_readUntil_6 : decode cX7_readUntil 6 = .ok (.iconst 0, 1) := by decide +kernel
theorem dX7_readUntil_7 : decode cX7_readUntil 7 = .ok (.invokevirtual 199, 3) := by decide +kernel
theorem dX7_readUntil_10 : decode cX7_readUntil 10 = .ok (.istore_n 1, 1) := by decide +kernel
theorem dX7_readUntil_11 : decode cX7_readUntil 11 = .ok (.aload_n 0, 1) := by decide +kernel
theorem dX7_readUntil_12 : decode cX7_readUntil 12 = .ok (.getfield 19, 3) := by decide +kernel
theorem dX7_readUntil_15 : decode cX7_readUntil 15 = .ok (.bipush 22, 2) := by decide +kernel
theorem dX7_readUntil_17 : decode cX7_readUntil 17 = .ok (.iconst 0, 1) := by decide +kernel
theorem dX7_readUntil_18 : decode cX7_readUntil 18 = .ok (.invokevirtual 199, 3) := by decide +kernel
theorem dX7_readUntil_21 : decode cX7_readUntil 21 = .ok (.istore_n 2, 1) := by decide +kernel
theorem dX7_readUntil_22 : decode cX7_readUntil 22 = .ok (.aload_n 0, 1) := by decide +kernel
theorem dX7_readUntil_23 : decode cX7_readUntil 23 = .ok (.invokevirtual 236, 3) := by decide +kernel
theorem dX7_readUntil_26 : decode cX7_readUntil 26 = .ok (.istore_n 3, 1) := by decide +kernel
theorem dX7_readUntil_27 : decode cX7_readUntil 27 = .ok (.aload_n 0, 1) := by decide +kernel
theorem dX7_readUntil_28 : decode cX7_readUntil 28 = .ok (.invokevirtual 127, 3) := by decide +kernel
theorem dX7_readUntil_31 : decode cX7_readUntil 31 = .ok (.ifCond .eq 30, 3) := by decide +kernel
theorem dX7_readUntil_34 : decode cX7_readUntil 34 = .ok (.aload_n 0, 1) := by decide +kernel
theorem dX7_readUntil_35 : decode cX7_readUntil 35 = .ok (.iconst 1, 1) := by decide +kernel
theorem dX7_readUntil_36 : decode cX7_readUntil 36 = .ok (.invokevirtual 240, 3) := by decide +kernel
theorem dX7_readUntil_39 : decode cX7_readUntil 39 = .ok (.ifCond .eq 22, 3) := by decide +kernel
theorem dX7_readUntil_42 : decode cX7_readUntil 42 = .ok (.aload_n 0, 1) := by decide +kernel
theorem dX7_readUntil_43 : decode cX7_readUntil 43 = .ok (.bipush 10, 2) := by decide +kernel
theorem dX7_readUntil_45 : decode cX7_readUntil 45 = .ok (.invokevirtual 58, 3) := by decide +kernel
theorem dX7_readUntil_48 : decode cX7_readUntil 48 = .ok (.ifCond .eq 13, 3) := by decide +kernel
theorem dX7_readUntil_51 : decode cX7_readUntil 51 = .ok (.aload_n 0, 1) := by decide +kernel
theorem dX7_readUntil_52 : decode cX7_readUntil 52 = .ok (.iconst 1, 1) := by decide +kernel
theorem dX7_readUntil_53 : decode cX7_readUntil 53 = .ok (.bipush 64, 2) := by decide +kernel
theorem dX7_readUntil_55 : decode cX7_readUntil 55 = .ok (.invokevirtual 171, 3) := by decide +kernel
theorem dX7_readUntil_58 : decode cX7_readUntil 58 = .ok (.ifCond .ne 5, 3) := by decide +kernel
theorem dX7_readUntil_61 : decode cX7_readUntil 61 = .ok (.iconst 0, 1) := by decide +kernel
theorem dX7_readUntil_62 : decode cX7_readUntil 62 = .ok (.ireturn, 1) := by decide +kernel
theorem dX7_readUntil_63 : decode cX7_readUntil 63 = .ok (.aload_n 0, 1) := by decide +kernel
theorem dX7_readUntil_64 : decode cX7_readUntil 64 = .ok (.getfield 19, 3) := by decide +kernel
theorem dX7_readUntil_67 : decode cX7_readUntil 67 = .ok (.iload_n 1, 1) := by decide +kernel
theorem dX7_readUntil_68 : decode cX7_readUntil 68 = .ok (.aload_n 0, 1) := by decide +kernel
theorem dX7_readUntil_69 : decode cX7_readUntil 69 = .ok (.getfield 130, 3) := by decide +kernel
theorem dX7_readUntil_72 : decode cX7_readUntil 72 = .ok (.invokevirtual 233, 3) := by decide +kernel
theorem dX7_readUntil_75 : decode cX7_readUntil 75 = .ok (.aload_n 0, 1) := by decide +kernel
theorem dX7_readUntil_76 : decode cX7_readUntil 76 = .ok (.getfield 19, 3) := by decide +kernel
theorem dX7_readUntil_79 : decode cX7_readUntil 79 = .ok (.iload_n 3, 1) := by decide +kernel
theorem dX7_readUntil_80 : decode cX7_readUntil 80 = .ok (.iconst 1, 1) := by decide +kernel
theorem dX7_readUntil_81 : decode cX7_readUntil 81 = .ok (.aload_n 0, 1) := by decide +kernel
theorem dX7_readUntil_82 : decode cX7_readUntil 82 = .ok (.getfield 244, 3) := by decide +kernel
theorem dX7_readUntil_85 : decode cX7_readUntil 85 = .ok (.iadd, 1) := by decide +kernel
theorem dX7_readUntil_86 : decode cX7_readUntil 86 = .ok (.invokevirtual 233, 3) := by decide +kernel
theorem dX7_readUntil_89 : decode cX7_readUntil 89 = .ok (.aload_n 0, 1) := by decide +kernel
theorem dX7_readUntil_90 : decode cX7_readUntil 90 = .ok (.getfield 19, 3) := by decide +kernel
theorem dX7_readUntil_93 : decode cX7_readUntil 93 = .ok (.bipush 24, 2) := by decide +kernel
theorem dX7_readUntil_95 : decode cX7_readUntil 95 = .ok (.iconst 0, 1) := by decide +kernel
theorem dX7_readUntil_96 : decode cX7_readUntil 96 = .ok (.invokevirtual 199, 3) := by decide +kernel
theorem dX7_readUntil_99 : decode cX7_readUntil 99 = .ok (.istore 4, 2) := by decide +kernel
theorem dX7_readUntil_101 : decode cX7_readUntil 101 = .ok (.aload_n 0, 1) := by decide +kernel
theorem dX7_readUntil_102 : decode cX7_readUntil 102 = .ok (.invokevirtual 196, 3) := by decide +kernel
theorem dX7_readUntil_105 : decode cX7_readUntil 105 = .ok (.ifCond .ne 5, 3) := by decide +kernel
theorem dX7_readUntil_108 : decode cX7_readUntil 108 = .ok (.iconst 0, 1) := by decide +kernel
theorem dX7_readUntil_109 : decode cX7_readUntil 109 = .ok (.ireturn, 1) := by decide +kernel
theorem dX7_readUntil_110 : decode cX7_readUntil 110 = .ok (.aload_n 0, 1) := by decide +kernel
theorem dX7_readUntil_111 : decode cX7_readUntil 111 = .ok (.getfield 19, 3) := by decide +kernel
theorem dX7_readUntil_114 : decode cX7_readUntil 114 = .ok (.bipush 26, 2) := by decide +kernel
theorem dX7_readUntil_116 : decode cX7_readUntil 116 = .ok (.iload_n 2, 1) := by decide +kernel
theorem dX7_readUntil_117 : decode cX7_readUntil 117 = .ok (.invokevirtual 199, 3) := by decide +kernel
theorem dX7_readUntil_120 : decode cX7_readUntil 120 = .ok (.pop, 1) := by decide +kernel
theorem dX7_readUntil_121 : decode cX7_readUntil 121 = .ok (.aload_n 0, 1) := by decide +kernel
theorem dX7_readUntil_122 : decode cX7_readUntil 122 = .ok (.getfield 19, 3) := by decide +kernel
theorem dX7_readUntil_125 : decode cX7_readUntil 125 = .ok (.iload_n 2, 1) := by decide +kernel
theorem dX7_readUntil_126 : decode cX7_readUntil 126 = .ok (.aload_n 0, 1) := by decide +kernel
theorem dX7_readUntil_127 : decode cX7_readUntil 127 = .ok (.getfield 19, 3) := by decide +kernel
theorem dX7_readUntil_130 : decode cX7_readUntil 130 = .ok (.getfield 119, 3) := by decide +kernel
theorem dX7_readUntil_133 : decode cX7_readUntil 133 = .ok (.invokevirtual 233, 3) := by decide +kernel
theorem dX7_readUntil_136 : decode cX7_readUntil 136 = .ok (.aload_n 0, 1) := by decide +kernel
theorem dX7_readUntil_137 : decode cX7_readUntil 137 = .ok (.getfield 19, 3) := by decide +kernel
theorem dX7_readUntil_140 : decode cX7_readUntil 140 = .ok (.iload 4, 2) := by decide +kernel
theorem dX7_readUntil_142 : decode cX7_readUntil 142 = .ok (.aload_n 0, 1) := by decide +kernel
theorem dX7_readUntil_143 : decode cX7_readUntil 143 = .ok (.getfield 19, 3) := by decide +kernel
theorem dX7_readUntil_146 : decode cX7_readUntil 146 = .ok (.getfield 119, 3) := by decide +kernel
theorem dX7_readUntil_149 : decode cX7_readUntil 149 = .ok (.invokevirtual 233, 3) := by decide +kernel
theorem dX7_readUntil_152 : decode cX7_readUntil 152 = .ok (.iconst 1, 1) := by decide +kernel
theorem dX7_readUntil_153 : decode cX7_readUntil 153 = .ok (.ireturn, 1) := by decide +kernel
def o_X7_readUntil (N : Nat) (fo_readBlock : (St → Option (Int × St))) (t : St) : Option (Int × St) :=
    bdI (f_X0_put N 20 0 t) fun v2 t1 =>
    bdI (f_X0_put N 22 0 t1) fun v4 t3 =>
    bdI (f_X7_putLook N t3) fun v6 t5 =>
    bdI (f_X7_pass N t5) fun v8 t7 =>
    cmpI v8 0 (if v8 = 0 then (boI 0 (some (0, t7)))
    else (bdI (f_X7_readEither N 1 t7) fun v10 t9 =>
    cmpI v10 0 (if v10 = 0 then (boI 0 (some (0, t9)))
    else (bdI (f_X7_take N 10 t9) fun v12 t11 =>
    cmpI v12 0 (if v12 = 0 then (boI 0 (some (0, t11)))
    else (bdI (f_X7_takeNumber N 1 64 t11) fun v14 t13 =>
    cmpI v14 0 (if v14 = 0 then (boI 0 (some (0, t13)))
    else (lt1 (t13.1 303 8) fun v15 =>
    bdV (f_X0_patch N v2 v15 t13) fun t16 =>
    lt1 (t16.1 303 10) fun v17 =>
    bdV (f_X0_patch N v6 (1 + v17) t16) fun t18 =>
    bdI (f_X0_put N 24 0 t18) fun v20 t19 =>
    bdI (fo_readBlock t19) fun v22 t21 =>
    cmpI v22 0 (if v22 = 0 then (boI 0 (some (0, t21)))
    else (bdI (f_X0_put N 26 v4 t21) fun v24 t23 =>
    lt1 (t23.1 302 18) fun v25 =>
    bdV (f_X0_patch N v4 v25 t23) fun t26 =>
    lt1 (t26.1 302 18) fun v27 =>
    bdV (f_X0_patch N v20 v27 t26) fun t28 =>
    boI 1 (some (1, t28))))))))))))
set_option maxHeartbeats 4000000 in
set_option maxRecDepth 100000 in
theorem b_o_X7_readUntil {p : Program} {l : Launch} {e : Env} {s : State} {m : MethodId} {args : Array Value} {below : List Frame} {meth : Method} {c : Code} {E : cE} {A : Nat → Prop} {r : Nat → Nat} {mc ms : Nat} {z : Int × St} {N : Nat} {D9 : Nat} {fo_readBlock : (St → Option (Int × St))} (ho_readBlock : ∀ (t : St) (z : Int × St), fo_readBlock t = some z → cM l E yX7_readBlock cX7_readBlock 2 (some .boolean) (rmS_readBlock D9) [.ref (r 303)] (gW E r shH t) (gqI E (gW E r shH) z)) {t : St} (X : gX p s m meth c cX7_readUntil 5 (some .boolean) yX7_readUntil args E A) (h : o_X7_readUntil N fo_readBlock t = some z) : gP p l e (rmS_readBlock (D9 + 1)) s m args below meth c E A 5 (MQ below ((gqI E (gW E r shH) z) A) args s mc ms A) (gW E r shH) 0 [(0, .ref (r 303))] [] t := by
  unfold o_X7_readUntil at h
  refine g_aload_n X dX7_readUntil_0 0 rfl ?_
  refine g_getR X fH_X7_19_303 rfl dX7_readUntil_1 ?_
  refine g_bipush X dX7_readUntil_4 (by decide) ?_
  refine g_iconst X dX7_readUntil_6 ?_
  refine g_callOI (rest := []) X (fun u9 h9 => cp_X0_put l E r N 20 0 t u9 h9) yy_X0_put yi_X0_put wdM_RX7_199 ⟨_, _, oH_302⟩ rfl rfl rfl (Nat.le_of_ble_eq_true rfl) dX7_readUntil_7 ⟨by show 0 + 1 ≤ D9 + 1 + 204; omega, by show 8 + (4 + 11) + 0 ≤ 60 * (D9 + 1) + 12088; omega⟩ ⟨rfl, rfl⟩ h (fun v2 t1 h => ?_)
  refine g_istore_n (lv' := [(1, iv v2), (0, .ref (r 303))]) X dX7_readUntil_10 rfl (by decide) rfl ?_
  refine g_aload_n X dX7_readUntil_11 1 rfl ?_
  refine g_getR X fH_X7_19_303 rfl dX7_readUntil_12 ?_
  refine g_bipush X dX7_readUntil_15 (by decide) ?_
  refine g_iconst X dX7_readUntil_17 ?_
  refine g_callOI (rest := []) X (fun u9 h9 => cp_X0_put l E r N 22 0 t1 u9 h9) yy_X0_put yi_X0_put wdM_RX7_199 ⟨_, _, oH_302⟩ rfl rfl rfl (Nat.le_of_ble_eq_true rfl) dX7_readUntil_18 ⟨by show 0 + 1 ≤ D9 + 1 + 204; omega, by show 8 + (4 + 11) + 0 ≤ 60 * (D9 + 1) + 12088; omega⟩ ⟨rfl, rfl⟩ h (fun v4 t3 h => ?_)
  refine g_istore_n (lv' := [(2, iv v4), (1, iv v2), (0, .ref (r 303))]) X dX7_readUntil_21 rfl (by decide) rfl ?_
  refine g_aload_n X dX7_readUntil_22 2 rfl ?_
  refine g_callOI (rest := []) X (fun u9 h9 => cp_X7_putLook l E r N t3 u9 h9) yy_X7_putLook yi_X7_putLook wdM_RX7_236 ⟨_, _, oH_303⟩ rfl rfl rfl (Nat.le_of_ble_eq_true rfl) dX7_readUntil_23 ⟨by show 1 + 1 ≤ D9 + 1 + 204; omega, by show 8 + (1 + 11) + 23 ≤ 60 * (D9 + 1) + 12088; omega⟩ ⟨rfl, rfl⟩ h (fun v6 t5 h => ?_)
  refine g_istore_n (lv' := [(3, iv v6), (2, iv v4), (1, iv v2), (0, .ref (r 303))]) X dX7_readUntil_26 rfl (by decide) rfl ?_
  refine g_aload_n X dX7_readUntil_27 3 rfl ?_
  refine g_callOI (rest := []) X (fun u9 h9 => cp_X7_pass l E r N t5 u9 h9) yy_X7_pass yi_X7_pass wdM_RX7_127 ⟨_, _, oH_303⟩ rfl rfl rfl (Nat.le_of_ble_eq_true rfl) dX7_readUntil_28 ⟨by show 0 + 1 ≤ D9 + 1 + 204; omega, by show 8 + (2 + 11) + 0 ≤ 60 * (D9 + 1) + 12088; omega⟩ ⟨rfl, rfl⟩ h (fun v8 t7 h => ?_)
  refine g_if_eq (tgt := 61) X dX7_readUntil_31 (by decide) h (fun h => ?_) (fun h => ?_)
  · refine g_iconst X dX7_readUntil_61 ?_
    exact g_zret X h dX7_readUntil_62
  · refine g_aload_n X dX7_readUntil_34 3 rfl ?_
    refine g_iconst X dX7_readUntil_35 ?_
    refine g_callOI (rest := []) X (fun u9 h9 => cp_X7_readEither l E r N 1 t7 u9 h9) yy_X7_readEither yi_X7_readEither wdM_RX7_240 ⟨_, _, oH_303⟩ rfl rfl rfl (Nat.le_of_ble_eq_true rfl) dX7_readUntil_36 ⟨by show 202 + 1 ≤ D9 + 1 + 204; omega, by show 8 + (3 + 11) + 12045 ≤ 60 * (D9 + 1) + 12088; omega⟩ ⟨rfl, rfl⟩ h (fun v10 t9 h => ?_)
    refine g_if_eq (tgt := 61) X dX7_readUntil_39 (by decide) h (fun h => ?_) (fun h => ?_)
    · refine g_iconst X dX7_readUntil_61 ?_
      exact g_zret X h dX7_readUntil_62
    · refine g_aload_n X dX7_readUntil_42 3 rfl ?_
      refine g_bipush X dX7_readUntil_43 (by decide) ?_
      refine g_callOI (rest := []) X (fun u9 h9 => cp_X7_take l E r N 10 t9 u9 h9) yy_X7_take yi_X7_take wdM_RX7_58 ⟨_, _, oH_303⟩ rfl rfl rfl (Nat.le_of_ble_eq_true rfl) dX7_readUntil_45 ⟨by show 1 + 1 ≤ D9 + 1 + 204; omega, by show 8 + (2 + 11) + 21 ≤ 60 * (D9 + 1) + 12088; omega⟩ ⟨rfl, rfl⟩ h (fun v12 t11 h => ?_)
      refine g_if_eq (tgt := 61) X dX7_readUntil_48 (by decide) h (fun h => ?_) (fun h => ?_)
      · refine g_iconst X dX7_readUntil_61 ?_
        exact g_zret X h dX7_readUntil_62
      · refine g_aload_n X dX7_readUntil_51 3 rfl ?_
        refine g_iconst X dX7_readUntil_52 ?_
        refine g_bipush X dX7_readUntil_53 (by decide) ?_
        refine g_callOI (rest := []) X (fun u9 h9 => cp_X7_takeNumber l E r N 1 64 t11 u9 h9) yy_X7_takeNumber yi_X7_takeNumber wdM_RX7_171 ⟨_, _, oH_303⟩ rfl rfl rfl (Nat.le_of_ble_eq_true rfl) dX7_readUntil_55 ⟨by show 1 + 1 ≤ D9 + 1 + 204; omega, by show 8 + (4 + 11) + 22 ≤ 60 * (D9 + 1) + 12088; omega⟩ ⟨rfl, rfl⟩ h (fun v14 t13 h => ?_)
        refine g_if_ne (tgt := 63) X dX7_readUntil_58 (by decide) h (fun h => ?_) (fun h => ?_)
        · refine g_aload_n X dX7_readUntil_63 3 rfl ?_
          refine g_getR X fH_X7_19_303 rfl dX7_readUntil_64 ?_
          refine g_iload_n X dX7_readUntil_67 2 rfl ?_
          refine g_aload_n X dX7_readUntil_68 3 rfl ?_
          refine g_getI X fH_X7_130_303 rfl dX7_readUntil_69 h (fun v15 h => ?_)
          refine g_callOV (rest := []) X (fun u9 h9 => cp_X0_patch l E r N v2 v15 t13 u9 h9) yy_X0_patch yi_X0_patch wdM_RX7_233 ⟨_, _, oH_302⟩ rfl rfl rfl (Nat.le_of_ble_eq_true rfl) dX7_readUntil_72 ⟨by show 1 + 1 ≤ D9 + 1 + 204; omega, by show 8 + (3 + 11) + 21 ≤ 60 * (D9 + 1) + 12088; omega⟩ ⟨rfl, rfl⟩ h (fun t16 h => ?_)
          refine g_aload_n X dX7_readUntil_75 3 rfl ?_
          refine g_getR X fH_X7_19_303 rfl dX7_readUntil_76 ?_
          refine g_iload_n X dX7_readUntil_79 0 rfl ?_
          refine g_iconst X dX7_readUntil_80 ?_
          refine g_aload_n X dX7_readUntil_81 3 rfl ?_
          refine g_getI X fH_X7_244_303 rfl dX7_readUntil_82 h (fun v17 h => ?_)
          refine g_iadd X dX7_readUntil_85 ?_
          refine g_callOV (rest := []) X (fun u9 h9 => cp_X0_patch l E r N v6 (1 + v17) t16 u9 h9) yy_X0_patch yi_X0_patch wdM_RX7_233 ⟨_, _, oH_302⟩ rfl rfl rfl (Nat.le_of_ble_eq_true rfl) dX7_readUntil_86 ⟨by show 1 + 1 ≤ D9 + 1 + 204; omega, by show 8 + (3 + 11) + 21 ≤ 60 * (D9 + 1) + 12088; omega⟩ ⟨rfl, rfl⟩ h (fun t18 h => ?_)
          refine g_aload_n X dX7_readUntil_89 3 rfl ?_
          refine g_getR X fH_X7_19_303 rfl dX7_readUntil_90 ?_
          refine g_bipush X dX7_readUntil_93 (by decide) ?_
          refine g_iconst X dX7_readUntil_95 ?_
          refine g_callOI (rest := []) X (fun u9 h9 => cp_X0_put l E r N 24 0 t18 u9 h9) yy_X0_put yi_X0_put wdM_RX7_199 ⟨_, _, oH_302⟩ rfl rfl rfl (Nat.le_of_ble_eq_true rfl) dX7_readUntil_96 ⟨by show 0 + 1 ≤ D9 + 1 + 204; omega, by show 8 + (4 + 11) + 0 ≤ 60 * (D9 + 1) + 12088; omega⟩ ⟨rfl, rfl⟩ h (fun v20 t19 h => ?_)
          refine g_istore (lv' := [(4, iv v20), (3, iv v6), (2, iv v4), (1, iv v2), (0, .ref (r 303))]) X dX7_readUntil_99 (by decide) rfl ?_
          refine g_aload_n X dX7_readUntil_101 4 rfl ?_
          refine g_callOI (rest := []) X (fun u9 h9 => ho_readBlock t19 u9 h9) yy_X7_readBlock yi_X7_readBlock wdM_RX7_196 ⟨_, _, oH_303⟩ rfl rfl rfl (Nat.le_of_ble_eq_true rfl) dX7_readUntil_102 ⟨by show D9 + 204 + 1 ≤ D9 + 1 + 204; omega, by show 8 + (2 + 11) + (60 * D9 + 12088) ≤ 60 * (D9 + 1) + 12088; omega⟩ ⟨rfl, rfl⟩ h (fun v22 t21 h => ?_)
          refine g_if_ne (tgt := 110) X dX7_readUntil_105 (by decide) h (fun h => ?_) (fun h => ?_)
          · refine g_aload_n X dX7_readUntil_110 4 rfl ?_
            refine g_getR X fH_X7_19_303 rfl dX7_readUntil_111 ?_
            refine g_bipush X dX7_readUntil_114 (by decide) ?_
            refine g_iload_n X dX7_readUntil_116 2 rfl ?_
            refine g_callOI (rest := []) X (fun u9 h9 => cp_X0_put l E r N 26 v4 t21 u9 h9) yy_X0_put yi_X0_put wdM_RX7_199 ⟨_, _, oH_302⟩ rfl rfl rfl (Nat.le_of_ble_eq_true rfl) dX7_readUntil_117 ⟨by show 0 + 1 ≤ D9 + 1 + 204; omega, by show 8 + (4 + 11) + 0 ≤ 60 * (D9 + 1) + 12088; omega⟩ ⟨rfl, rfl⟩ h (fun v24 t23 h => ?_)
            refine g_pop X rfl dX7_readUntil_120 ?_
            refine g_aload_n X dX7_readUntil_121 4 rfl ?_
            refine g_getR X fH_X7_19_303 rfl dX7_readUntil_122 ?_
            refine g_iload_n X dX7_readUntil_125 2 rfl ?_
            refine g_aload_n X dX7_readUntil_126 4 rfl ?_
            refine g_getR X fH_X7_19_303 rfl dX7_readUntil_127 ?_
            refine g_getI X fH_X7_119_302 rfl dX7_readUntil_130 h (fun v25 h => ?_)
            refine g_callOV (rest := []) X (fun u9 h9 => cp_X0_patch l E r N v4 v25 t23 u9 h9) yy_X0_patch yi_X0_patch wdM_RX7_233 ⟨_, _, oH_302⟩ rfl rfl rfl (Nat.le_of_ble_eq_true rfl) dX7_readUntil_133 ⟨by show 1 + 1 ≤ D9 + 1 + 204; omega, by show 8 + (3 + 11) + 21 ≤ 60 * (D9 + 1) + 12088; omega⟩ ⟨rfl, rfl⟩ h (fun t26 h => ?_)
            refine g_aload_n X dX7_readUntil_136 4 rfl ?_
            refine g_getR X fH_X7_19_303 rfl dX7_readUntil_137 ?_
            refine g_iload X dX7_readUntil_140 0 rfl ?_
            refine g_aload_n X dX7_readUntil_142 4 rfl ?_
            refine g_getR X fH_X7_19_303 rfl dX7_readUntil_143 ?_
            refine g_getI X fH_X7_119_302 rfl dX7_readUntil_146 h (fun v27 h => ?_)
            refine g_callOV (rest := []) X (fun u9 h9 => cp_X0_patch l E r N v20 v27 t26 u9 h9) yy_X0_patch yi_X0_patch wdM_RX7_233 ⟨_, _, oH_302⟩ rfl rfl rfl (Nat.le_of_ble_eq_true rfl) dX7_readUntil_149 ⟨by show 1 + 1 ≤ D9 + 1 + 204; omega, by show 8 + (3 + 11) + 21 ≤ 60 * (D9 + 1) + 12088; omega⟩ ⟨rfl, rfl⟩ h (fun t28 h => ?_)
            refine g_iconst X dX7_readUntil_152 ?_
            exact g_zret X h dX7_readUntil_153
          · refine g_iconst X dX7_readUntil_108 ?_
            exact g_zret X h dX7_readUntil_109
        · refine g_iconst X dX7_readUntil_61 ?_
          exact g_zret X h dX7_readUntil_62
set_option maxHeartbeats 4000000 in
set_option maxRecDepth 100000 in
theorem cpo_X7_readUntil (l : Launch) (E : cE) (r : Nat → Nat) (N : Nat) (D9 : Nat) (fo_readBlock : (St → Option (Int × St))) (ho_readBlock : ∀ (t : St) (z : Int × St), fo_readBlock t = some z → cM l E yX7_readBlock cX7_readBlock 2 (some .boolean) (rmS_readBlock D9) [.ref (r 303)] (gW E r shH t) (gqI E (gW E r shH) z)) (t : St) (z : Int × St) (h : o_X7_readUntil N fo_readBlock t = some z) : cM l E yX7_readUntil cX7_readUntil 5 (some .boolean) (rmS_readBlock (D9 + 1)) [.ref (r 303)] (gW E r shH t) (gqI E (gW E r shH) z) := by
  refine g_of (w := gW E r shH) (by decide) (Nat.le_of_ble_eq_true rfl) ?_
  intro p e s m below meth c A X
  exact g_sub (lv' := [(0, .ref (r 303))]) [0] rfl (b_o_X7_readUntil ho_readBlock X h)
theorem dX7_readIf_0 : decode cX7_readIf 0 = .ok (.aload_n 0, 1) := by decide +kernel
theorem dX7_readIf_1 : decode cX7_readIf 1 = .ok (.invokevirtual 236, 3) := by decide +kernel
theorem dX7_readIf_4 : decode cX7_readIf 4 = .ok (.istore_n 1, 1) := by decide +kernel
theorem dX7_readIf_5 : decode cX7_readIf 5 = .ok (.aload_n 0, 1) := by decide +kernel
theorem dX7_readIf_6 : decode cX7_readIf 6 = .ok (.invokevirtual 127, 3) := by decide +kernel
theorem dX7_readIf_9 : decode cX7_readIf 9 = .ok (.ifCond .eq 11, 3) := by decide +kernel
theorem dX7_readIf_12 : decode cX7_readIf 12 = .ok (.aload_n 0, 1) := by decide +kernel
theorem dX7_readIf_13 : decode cX7_readIf 13 = .ok (.iconst 1, 1) := by decide +kernel
theorem dX7_readIf_14 : decode cX7_readIf 14 = .ok (.invokevirtual 240, 3) := by decide +kernel
theorem dX7_readIf_17 : decode cX7_readIf 17 = .ok (.ifCond .ne 5, 3) := by decide +kernel
theorem dX7_readIf_20 : decode cX7_readIf 20 = .ok (.iconst 0, 1) := by decide +kernel
theorem dX7_readIf_21 : decode cX7_readIf 21 = .ok (.ireturn, 1) := by decide +kernel
theorem dX7_readIf_22 : decode cX7_readIf 22 = .ok (.aload_n 0, 1) := by decide +kernel
theorem dX7_readIf_23 : decode cX7_readIf 23 = .ok (.getfield 19, 3) := by decide +kernel
theorem dX7_readIf_26 : decode cX7_readIf 26 = .ok (.iload_n 1, 1) := by decide +kernel
theorem dX7_readIf_27 : decode cX7_readIf 27 = .ok (.iconst 1, 1) := by decide +kernel
theorem dX7_readIf_28 : decode cX7_readIf 28 = .ok (.aload_n 0, 1) := by decide +kernel
theorem dX7_readIf_29 : decode cX7_readIf 29 = .ok (.getfield 244, 3) := by decide +kernel
theorem dX7_readIf_32 : decode cX7_readIf 32 = .ok (.iadd, 1) := by decide +kernel
theorem dX7_readIf_33 : decode cX7_readIf 33 = .ok (.invokevirtual 233, 3) := by decide +kernel
theorem dX7_readIf_36 : decode cX7_readIf 36 = .ok (.aload_n 0, 1) := by decide +kernel
theorem dX7_readIf_37 : decode cX7_readIf 37 = .ok (.getfield 19, 3) := by decide +kernel
theorem dX7_readIf_40 : decode cX7_readIf 40 = .ok (.bipush 25, 2) := by decide +kernel
theorem dX7_readIf_42 : decode cX7_readIf 42 = .ok (.iconst 0, 1) := by decide +kernel
theorem dX7_readIf_43 : decode cX7_readIf 43 = .ok (.invokevirtual 199, 3) := by decide +kernel
theorem dX7_readIf_46 : decode cX7_readIf 46 = .ok (.istore_n 2, 1) := by decide +kernel
theorem dX7_readIf_47 : decode cX7_readIf 47 = .ok (.aload_n 0, 1) := by decide +kernel
theorem dX7_readIf_48 : decode cX7_readIf 48 = .ok (.invokevirtual 196, 3) := by decide +kernel
theorem dX7_readIf_51 : decode cX7_readIf 51 = .ok (.ifCond .ne 5, 3) := by decide +kernel
theorem dX7_readIf_54 : decode cX7_readIf 54 = .ok (.iconst 0, 1) := by decide +kernel
theorem dX7_readIf_55 : decode cX7_readIf 55 = .ok (.ireturn, 1) := by decide +kernel
theorem dX7_readIf_56 : decode cX7_readIf 56 = .ok (.aload_n 0, 1) := by decide +kernel
theorem dX7_readIf_57 : decode cX7_readIf 57 = .ok (.getfield 29, 3) := by decide +kernel
theorem dX7_readIf_60 : decode cX7_readIf 60 = .ok (.bipush 12, 2) := by decide +kernel
theorem dX7_readIf_62 : decode cX7_readIf 62 = .ok (.if_icmp .eq 20, 3) := by decide +kernel
theorem dX7_readIf_65 : decode cX7_readIf 65 = .ok (.aload_n 0, 1) := by decide +kernel
theorem dX7_readIf_66 : decode cX7_readIf 66 = .ok (.getfield 19, 3) := by decide +kernel
theorem dX7_readIf_69 : decode cX7_readIf 69 = .ok (.iload_n 2, 1) := by decide +kernel
theorem dX7_readIf_70 : decode cX7_readIf 70 = .ok (.aload_n 0, 1) := by decide +kernel
theorem dX7_readIf_71 : decode cX7_readIf 71 = .ok (.getfield 19, 3) := by decide +kernel
theorem dX7_readIf_74 : decode cX7_readIf 74 = .ok (.getfield 119, 3) := by decide +kernel
theorem dX7_readIf_77 : decode cX7_readIf 77 = .ok (.invokevirtual 233, 3) := by decide +kernel
theorem dX7_readIf_80 : decode cX7_readIf 80 = .ok (.iconst 1, 1) := by decide +kernel
theorem dX7_readIf_81 : decode cX7_readIf 81 = .ok (.ireturn, 1) := by decide +kernel
theorem dX7_readIf_82 : decode cX7_readIf 82 = .ok (.aload_n 0, 1) := by decide +kernel
theorem dX7_readIf_83 : decode cX7_readIf 83 = .ok (.getfield 19, 3) := by decide +kernel
theorem dX7_readIf_86 : decode cX7_readIf 86 = .ok (.bipush 26, 2) := by decide +kernel
theorem dX7_readIf_88 : decode cX7_readIf 88 = .ok (.iconst 0, 1) := by decide +kernel
theorem dX7_readIf_89 : decode cX7_readIf 89 = .ok (.invokevirtual 199, 3) := by decide +kernel
theorem dX7_readIf_92 : decode cX7_readIf 92 = .ok (.istore_n 3, 1) := by decide +kernel
theorem dX7_readIf_93 : decode cX7_readIf 93 = .ok (.aload_n 0, 1) := by decide +kernel
theorem dX7_readIf_94 : decode cX7_readIf 94 = .ok (.getfield 19, 3) := by decide +kernel
theorem dX7_readIf_97 : decode cX7_readIf 97 = .ok (.iload_n 2, 1) := by decide +kernel
theorem dX7_readIf_98 : decode cX7_readIf 98 = .ok (.aload_n 0, 1) := by decide +kernel
theorem dX7_readIf_99 : decode cX7_readIf 99 = .ok (.getfield 19, 3) := by decide +kernel
theorem dX7_readIf_102 : decode cX7_readIf 102 = .ok (.getfield 119, 3) := by decide +kernel
theorem dX7_readIf_105 : decode cX7_readIf 105 = .ok (.invokevirtual 233, 3) := by decide +kernel
theorem dX7_readIf_108 : decode cX7_readIf 108 = .ok (.aload_n 0, 1) := by decide +kernel
theorem dX7_readIf_109 : decode cX7_readIf 109 = .ok (.invokevirtual 127, 3) := by decide +kernel
theorem dX7_readIf_112 : decode cX7_readIf 112 = .ok (.ifCond .eq 10, 3) := by decide +kernel
theorem dX7_readIf_115 : decode cX7_readIf 115 = .ok (.aload_n 0, 1) := by decide +kernel
theorem dX7_readIf_116 : decode cX7_readIf 116 = .ok (.invokevirtual 196, 3) := by decide +kernel
theorem dX7_readIf_119 : decode cX7_readIf 119 = .ok (.ifCond .ne 5, 3) := by decide +kernel
theorem dX7_readIf_122 : decode cX7_readIf 122 = .ok (.iconst 0, 1) := by decide +kernel
theorem dX7_readIf_123 : decode cX7_readIf 123 = .ok (.ireturn, 1) := by decide +kernel
theorem dX7_readIf_124 : decode cX7_readIf 124 = .ok (.aload_n 0, 1) := by decide +kernel
theorem dX7_readIf_125 : decode cX7_readIf 125 = .ok (.getfield 19, 3) := by decide +kernel
theorem dX7_readIf_128 : decode cX7_readIf 128 = .ok (.iload_n 3, 1) := by decide +kernel
theorem dX7_readIf_129 : decode cX7_readIf 129 = .ok (.aload_n 0, 1) := by decide +kernel
theorem dX7_readIf_130 : decode cX7_readIf 130 = .ok (.getfield 19, 3) := by decide +kernel
theorem dX7_readIf_133 : decode cX7_readIf 133 = .ok (.getfield 119, 3) := by decide +kernel
theorem dX7_readIf_136 : decode cX7_readIf 136 = .ok (.invokevirtual 233, 3) := by decide +kernel
theorem dX7_readIf_139 : decode cX7_readIf 139 = .ok (.iconst 1, 1) := by decide +kernel
theorem dX7_readIf_140 : decode cX7_readIf 140 = .ok (.ireturn, 1) := by decide +kernel
def o_X7_readIf (N : Nat) (fo_readBlock : (St → Option (Int × St))) (t : St) : Option (Int × St) :=
    bdI (f_X7_putLook N t) fun v2 t1 =>
    bdI (f_X7_pass N t1) fun v4 t3 =>
    cmpI v4 0 (if v4 = 0 then (boI 0 (some (0, t3)))
    else (bdI (f_X7_readEither N 1 t3) fun v6 t5 =>
    cmpI v6 0 (if v6 = 0 then (boI 0 (some (0, t5)))
    else (lt1 (t5.1 303 10) fun v7 =>
    bdV (f_X0_patch N v2 (1 + v7) t5) fun t8 =>
    bdI (f_X0_put N 25 0 t8) fun v10 t9 =>
    bdI (fo_readBlock t9) fun v12 t11 =>
    cmpI v12 0 (if v12 = 0 then (boI 0 (some (0, t11)))
    else (lt1 (t11.1 303 3) fun v13 =>
    cmpI v13 12 (if v13 = 12 then (bdI (f_X0_put N 26 0 t11) fun v15 t14 =>
    lt1 (t14.1 302 18) fun v16 =>
    bdV (f_X0_patch N v10 v16 t14) fun t17 =>
    bdI (f_X7_pass N t17) fun v19 t18 =>
    cmpI v19 0 (if v19 = 0 then (boI 0 (some (0, t18)))
    else (bdI (fo_readBlock t18) fun v21 t20 =>
    cmpI v21 0 (if v21 = 0 then (boI 0 (some (0, t20)))
    else (lt1 (t20.1 302 18) fun v22 =>
    bdV (f_X0_patch N v15 v22 t20) fun t23 =>
    boI 1 (some (1, t23)))))))
    else (lt1 (t11.1 302 18) fun v24 =>
    bdV (f_X0_patch N v10 v24 t11) fun t25 =>
    boI 1 (some (1, t25))))))))))
set_option maxHeartbeats 4000000 in
set_option maxRecDepth 100000 in
theorem b_o_X7_readIf {p : Program} {l : Launch} {e : Env} {s : State} {m : MethodId} {args : Array Value} {below : List Frame} {meth : Method} {c : Code} {E : cE} {A : Nat → Prop} {r : Nat → Nat} {mc ms : Nat} {z : Int × St} {N : Nat} {D9 : Nat} {fo_readBlock : (St → Option (Int × St))} (ho_readBlock : ∀ (t : St) (z : Int × St), fo_readBlock t = some z → cM l E yX7_readBlock cX7_readBlock 2 (some .boolean) (rmS_readBlock D9) [.ref (r 303)] (gW E r shH t) (gqI E (gW E r shH) z)) {t : St} (X : gX p s m meth c cX7_readIf 4 (some .boolean) yX7_readIf args E A) (h : o_X7_readIf N fo_readBlock t = some z) : gP p l e (rmS_readBlock (D9 + 1)) s m args below meth c E A 4 (MQ below ((gqI E (gW E r shH) z) A) args s mc ms A) (gW E r shH) 0 [(0, .ref (r 303))] [] t := by
  unfold o_X7_readIf at h
  refine g_aload_n X dX7_readIf_0 0 rfl ?_
  refine g_callOI (rest := []) X (fun u9 h9 => cp_X7_putLook l E r N t u9 h9) yy_X7_putLook yi_X7_putLook wdM_RX7_236 ⟨_, _, oH_303⟩ rfl rfl rfl (Nat.le_of_ble_eq_true rfl) dX7_readIf_1 ⟨by show 1 + 1 ≤ D9 + 1 + 204; omega, by show 8 + (1 + 11) + 23 ≤ 60 * (D9 + 1) + 12088; omega⟩ ⟨rfl, rfl⟩ h (fun v2 t1 h => ?_)
  refine g_istore_n (lv' := [(1, iv v2), (0, .ref (r 303))]) X dX7_readIf_4 rfl (by decide) rfl ?_
  refine g_aload_n X dX7_readIf_5 1 rfl ?_
  refine g_callOI (rest := []) X (fun u9 h9 => cp_X7_pass l E r N t1 u9 h9) yy_X7_pass yi_X7_pass wdM_RX7_127 ⟨_, _, oH_303⟩ rfl rfl rfl (Nat.le_of_ble_eq_true rfl) dX7_readIf_6 ⟨by show 0 + 1 ≤ D9 + 1 + 204; omega, by show 8 + (2 + 11) + 0 ≤ 60 * (D9 + 1) + 12088; omega⟩ ⟨rfl, rfl⟩ h (fun v4 t3 h => ?_)
  refine g_if_eq (tgt := 20) X dX7_readIf_9 (by decide) h (fun h => ?_) (fun h => ?_)
  · refine g_iconst X dX7_readIf_20 ?_
    exact g_zret X h dX7_readIf_21
  · refine g_aload_n X dX7_readIf_12 1 rfl ?_
    refine g_iconst X dX7_readIf_13 ?_
    refine g_callOI (rest := []) X (fun u9 h9 => cp_X7_readEither l E r N 1 t3 u9 h9) yy_X7_readEither yi_X7_readEither wdM_RX7_240 ⟨_, _, oH_303⟩ rfl rfl rfl (Nat.le_of_ble_eq_true rfl) dX7_readIf_14 ⟨by show 202 + 1 ≤ D9 + 1 + 204; omega, by show 8 + (3 + 11) + 12045 ≤ 60 * (D9 + 1) + 12088; omega⟩ ⟨rfl, rfl⟩ h (fun v6 t5 h => ?_)
    refine g_if_ne (tgt := 22) X dX7_readIf_17 (by decide) h (fun h => ?_) (fun h => ?_)
    · refine g_aload_n X dX7_readIf_22 1 rfl ?_
      refine g_getR X fH_X7_19_303 rfl dX7_readIf_23 ?_
      refine g_iload_n X dX7_readIf_26 0 rfl ?_
      refine g_iconst X dX7_readIf_27 ?_
      refine g_aload_n X dX7_readIf_28 1 rfl ?_
      refine g_getI X fH_X7_244_303 rfl dX7_readIf_29 h (fun v7 h => ?_)
      refine g_iadd X dX7_readIf_32 ?_
      refine g_callOV (rest := []) X (fun u9 h9 => cp_X0_patch l E r N v2 (1 + v7) t5 u9 h9) yy_X0_patch yi_X0_patch wdM_RX7_233 ⟨_, _, oH_302⟩ rfl rfl rfl (Nat.le_of_ble_eq_true rfl) dX7_readIf_33 ⟨by show 1 + 1 ≤ D9 + 1 + 204; omega, by show 8 + (3 + 11) + 21 ≤ 60 * (D9 + 1) + 12088; omega⟩ ⟨rfl, rfl⟩ h (fun t8 h => ?_)
      refine g_aload_n X dX7_readIf_36 1 rfl ?_
      refine g_getR X fH_X7_19_303 rfl dX7_readIf_37 ?_
      refine g_bipush X dX7_readIf_40 (by decide) ?_
      refine g_iconst X dX7_readIf_42 ?_
      refine g_callOI (rest := []) X (fun u9 h9 => cp_X0_put l E r N 25 0 t8 u9 h9) yy_X0_put yi_X0_put wdM_RX7_199 ⟨_, _, oH_302⟩ rfl rfl rfl (Nat.le_of_ble_eq_true rfl) dX7_readIf_43 ⟨by show 0 + 1 ≤ D9 + 1 + 204; omega, by show 8 + (4 + 11) + 0 ≤ 60 * (D9 + 1) + 12088; omega⟩ ⟨rfl, rfl⟩ h (fun v10 t9 h => ?_)
      refine g_istore_n (lv' := [(2, iv v10), (1, iv v2), (0, .ref (r 303))]) X dX7_readIf_46 rfl (by decide) rfl ?_
      refine g_aload_n X dX7_readIf_47 2 rfl ?_
      refine g_callOI (rest := []) X (fun u9 h9 => ho_readBlock t9 u9 h9) yy_X7_readBlock yi_X7_readBlock wdM_RX7_196 ⟨_, _, oH_303⟩ rfl rfl rfl (Nat.le_of_ble_eq_true rfl) dX7_readIf_48 ⟨by show D9 + 204 + 1 ≤ D9 + 1 + 204; omega, by show 8 + (2 + 11) + (60 * D9 + 12088) ≤ 60 * (D9 + 1) + 12088; omega⟩ ⟨rfl, rfl⟩ h (fun v12 t11 h => ?_)
      refine g_if_ne (tgt := 56) X dX7_readIf_51 (by decide) h (fun h => ?_) (fun h => ?_)
      · refine g_aload_n X dX7_readIf_56 2 rfl ?_
        refine g_getI X fH_X7_29_303 rfl dX7_readIf_57 h (fun v13 h => ?_)
        refine g_bipush X dX7_readIf_60 (by decide) ?_
        refine g_icmp_eq (tgt := 82) X dX7_readIf_62 (by decide) h (fun h => ?_) (fun h => ?_)
        · refine g_aload_n X dX7_readIf_82 2 rfl ?_
          refine g_getR X fH_X7_19_303 rfl dX7_readIf_83 ?_
          refine g_bipush X dX7_readIf_86 (by decide) ?_
          refine g_iconst X dX7_readIf_88 ?_
          refine g_callOI (rest := []) X (fun u9 h9 => cp_X0_put l E r N 26 0 t11 u9 h9) yy_X0_put yi_X0_put wdM_RX7_199 ⟨_, _, oH_302⟩ rfl rfl rfl (Nat.le_of_ble_eq_true rfl) dX7_readIf_89 ⟨by show 0 + 1 ≤ D9 + 1 + 204; omega, by show 8 + (4 + 11) + 0 ≤ 60 * (D9 + 1) + 12088; omega⟩ ⟨rfl, rfl⟩ h (fun v15 t14 h => ?_)
          refine g_istore_n (lv' := [(3, iv v15), (2, iv v10), (1, iv v2), (0, .ref (r 303))]) X dX7_readIf_92 rfl (by decide) rfl ?_
          refine g_aload_n X dX7_readIf_93 3 rfl ?_
          refine g_getR X fH_X7_19_303 rfl dX7_readIf_94 ?_
          refine g_iload_n X dX7_readIf_97 1 rfl ?_
          refine g_aload_n X dX7_readIf_98 3 rfl ?_
          refine g_getR X fH_X7_19_303 rfl dX7_readIf_99 ?_
          refine g_getI X fH_X7_119_302 rfl dX7_readIf_102 h (fun v16 h => ?_)
          refine g_callOV (rest := []) X (fun u9 h9 => cp_X0_patch l E r N v10 v16 t14 u9 h9) yy_X0_patch yi_X0_patch wdM_RX7_233 ⟨_, _, oH_302⟩ rfl rfl rfl (Nat.le_of_ble_eq_true rfl) dX7_readIf_105 ⟨by show 1 + 1 ≤ D9 + 1 + 204; omega, by show 8 + (3 + 11) + 21 ≤ 60 * (D9 + 1) + 12088; omega⟩ ⟨rfl, rfl⟩ h (fun t17 h => ?_)
          refine g_aload_n X dX7_readIf_108 3 rfl ?_
          refine g_callOI (rest := []) X (fun u9 h9 => cp_X7_pass l E r N t17 u9 h9) yy_X7_pass yi_X7_pass wdM_RX7_127 ⟨_, _, oH_303⟩ rfl rfl rfl (Nat.le_of_ble_eq_true rfl) dX7_readIf_109 ⟨by show 0 + 1 ≤ D9 + 1 + 204; omega, by show 8 + (2 + 11) + 0 ≤ 60 * (D9 + 1) + 12088; omega⟩ ⟨rfl, rfl⟩ h (fun v19 t18 h => ?_)
          refine g_if_eq (tgt := 122) X dX7_readIf_112 (by decide) h (fun h => ?_) (fun h => ?_)
          · refine g_iconst X dX7_readIf_122 ?_
            exact g_zret X h dX7_readIf_123
          · refine g_aload_n X dX7_readIf_115 3 rfl ?_
            refine g_callOI (rest := []) X (fun u9 h9 => ho_readBlock t18 u9 h9) yy_X7_readBlock yi_X7_readBlock wdM_RX7_196 ⟨_, _, oH_303⟩ rfl rfl rfl (Nat.le_of_ble_eq_true rfl) dX7_readIf_116 ⟨by show D9 + 204 + 1 ≤ D9 + 1 + 204; omega, by show 8 + (2 + 11) + (60 * D9 + 12088) ≤ 60 * (D9 + 1) + 12088; omega⟩ ⟨rfl, rfl⟩ h (fun v21 t20 h => ?_)
            refine g_if_ne (tgt := 124) X dX7_readIf_119 (by decide) h (fun h => ?_) (fun h => ?_)
            · refine g_aload_n X dX7_readIf_124 3 rfl ?_
              refine g_getR X fH_X7_19_303 rfl dX7_readIf_125 ?_
              refine g_iload_n X dX7_readIf_128 0 rfl ?_
              refine g_aload_n X dX7_readIf_129 3 rfl ?_
              refine g_getR X fH_X7_19_303 rfl dX7_readIf_130 ?_
              refine g_getI X fH_X7_119_302 rfl dX7_readIf_133 h (fun v22 h => ?_)
              refine g_callOV (rest := []) X (fun u9 h9 => cp_X0_patch l E r N v15 v22 t20 u9 h9) yy_X0_patch yi_X0_patch wdM_RX7_233 ⟨_, _, oH_302⟩ rfl rfl rfl (Nat.le_of_ble_eq_true rfl) dX7_readIf_136 ⟨by show 1 + 1 ≤ D9 + 1 + 204; omega, by show 8 + (3 + 11) + 21 ≤ 60 * (D9 + 1) + 12088; omega⟩ ⟨rfl, rfl⟩ h (fun t23 h => ?_)
              refine g_iconst X dX7_readIf_139 ?_
              exact g_zret X h dX7_readIf_140
            · refine g_iconst X dX7_readIf_122 ?_
              exact g_zret X h dX7_readIf_123
        · refine g_aload_n X dX7_readIf_65 2 rfl ?_
          refine g_getR X fH_X7_19_303 rfl dX7_readIf_66 ?_
          refine g_iload_n X dX7_readIf_69 0 rfl ?_
          refine g_aload_n X dX7_readIf_70 2 rfl ?_
          refine g_getR X fH_X7_19_303 rfl dX7_readIf_71 ?_
          refine g_getI X fH_X7_119_302 rfl dX7_readIf_74 h (fun v24 h => ?_)
          refine g_callOV (rest := []) X (fun u9 h9 => cp_X0_patch l E r N v10 v24 t11 u9 h9) yy_X0_patch yi_X0_patch wdM_RX7_233 ⟨_, _, oH_302⟩ rfl rfl rfl (Nat.le_of_ble_eq_true rfl) dX7_readIf_77 ⟨by show 1 + 1 ≤ D9 + 1 + 204; omega, by show 8 + (3 + 11) + 21 ≤ 60 * (D9 + 1) + 12088; omega⟩ ⟨rfl, rfl⟩ h (fun t25 h => ?_)
          refine g_iconst X dX7_readIf_80 ?_
          exact g_zret X h dX7_readIf_81
      · refine g_iconst X dX7_readIf_54 ?_
        exact g_zret X h dX7_readIf_55
    · refine g_iconst X dX7_readIf_20 ?_
      exact g_zret X h dX7_readIf_21
set_option maxHeartbeats 4000000 in
set_option maxRecDepth 100000 in
theorem cpo_X7_readIf (l : Launch) (E : cE) (r : Nat → Nat) (N : Nat) (D9 : Nat) (fo_readBlock : (St → Option (Int × St))) (ho_readBlock : ∀ (t : St) (z : Int × St), fo_readBlock t = some z → cM l E yX7_readBlock cX7_readBlock 2 (some .boolean) (rmS_readBlock D9) [.ref (r 303)] (gW E r shH t) (gqI E (gW E r shH) z)) (t : St) (z : Int × St) (h : o_X7_readIf N fo_readBlock t = some z) : cM l E yX7_readIf cX7_readIf 4 (some .boolean) (rmS_readBlock (D9 + 1)) [.ref (r 303)] (gW E r shH t) (gqI E (gW E r shH) z) := by
  refine g_of (w := gW E r shH) (by decide) (Nat.le_of_ble_eq_true rfl) ?_
  intro p e s m below meth c A X
  exact g_sub (lv' := [(0, .ref (r 303))]) [0] rfl (b_o_X7_readIf ho_readBlock X h)
theorem dX7_readFor_0 : decode cX7_readFor 0 = .ok (.aload_n 0, 1) := by decide +kernel
theorem dX7_readFor_1 : decode cX7_readFor 1 = .ok (.invokevirtual 236, 3) := by decide +kernel
theorem dX7_readFor_4 : decode cX7_readFor 4 = .ok (.istore_n 1, 1) := by decide +kernel
theorem dX7_readFor_5 : decode cX7_readFor 5 = .ok (.aload_n 0, 1) := by decide +kernel
theorem dX7_readFor_6 : decode cX7_readFor 6 = .ok (.invokevirtual 127, 3) := by decide +kernel
theorem dX7_readFor_9 : decode cX7_readFor 9 = .ok (.ifCond .eq 11, 3) := by decide +kernel
theorem dX7_readFor_12 : decode cX7_readFor 12 = .ok (.aload_n 0, 1) := by decide +kernel
theorem dX7_readFor_13 : decode cX7_readFor 13 = .ok (.iconst 0, 1) := by decide +kernel
theorem dX7_readFor_14 : decode cX7_readFor 14 = .ok (.invokevirtual 240, 3) := by decide +kernel
theorem dX7_readFor_17 : decode cX7_readFor 17 = .ok (.ifCond .ne 5, 3) := by decide +kernel
theorem dX7_readFor_20 : decode cX7_readFor 20 = .ok (.iconst 0, 1) := by decide +kernel
theorem dX7_readFor_21 : decode cX7_readFor 21 = .ok (.ireturn, 1) := by decide +kernel
theorem dX7_readFor_22 : decode cX7_readFor 22 = .ok (.aload_n 0, 1) := by decide +kernel
theorem dX7_readFor_23 : decode cX7_readFor 23 = .ok (.getfield 19, 3) := by decide +kernel
theorem dX7_readFor_26 : decode cX7_readFor 26 = .ok (.iload_n 1, 1) := by decide +kernel
theorem dX7_readFor_27 : decode cX7_readFor 27 = .ok (.iconst 1, 1) := by decide +kernel
theorem dX7_readFor_28 : decode cX7_readFor 28 = .ok (.aload_n 0, 1) := by decide +kernel
theorem dX7_readFor_29 : decode cX7_readFor 29 = .ok (.getfield 244, 3) := by decide +kernel
theorem dX7_readFor_32 : decode cX7_readFor 32 = .ok (.iadd, 1) := by decide +kernel
theorem dX7_readFor_33 : decode cX7_readFor 33 = .ok (.invokevirtual 233, 3) := by decide +kernel
theorem dX7_readFor_36 : decode cX7_readFor 36 = .ok (.aload_n 0, 1) := by decide +kernel
theorem dX7_readFor_37 : decode cX7_readFor 37 = .ok (.getfield 19, 3) := by decide +kernel
theorem dX7_readFor_40 : decode cX7_readFor 40 = .ok (.bipush 27, 2) := by decide +kernel
theorem dX7_readFor_42 : decode cX7_readFor 42 = .ok (.iconst 0, 1) := by decide +kernel
theorem dX7_readFor_43 : decode cX7_readFor 43 = .ok (.invokevirtual 199, 3) := by decide +kernel
theorem dX7_readFor_46 : decode cX7_readFor 46 = .ok (.pop, 1) := by decide +kernel
theorem dX7_readFor_47 : decode cX7_readFor 47 = .ok (.aload_n 0, 1) := by decide +kernel
theorem dX7_readFor_48 : decode cX7_readFor 48 = .ok (.invokevirtual 196, 3) := by decide +kernel
theorem dX7_readFor_51 : decode cX7_readFor 51 = .ok (.ifCond .ne 5, 3) := by decide +kernel
theorem dX7_readFor_54 : decode cX7_readFor 54 = .ok (.iconst 0, 1) := by decide +kernel
theorem dX7_readFor_55 : decode cX7_readFor 55 = .ok (.ireturn, 1) := by decide +kernel
theorem dX7_readFor_56 : decode cX7_readFor 56 = .ok (.aload_n 0, 1) := by decide +kernel
theorem dX7_readFor_57 : decode cX7_readFor 57 = .ok (.getfield 19, 3) := by decide +kernel
theorem dX7_readFor_60 : decode cX7_readFor 60 = .ok (.bipush 28, 2) := by decide +kernel
theorem dX7_readFor_62 : decode cX7_readFor 62 = .ok (.iconst 0, 1) := by decide +kernel
theorem dX7_readFor_63 : decode cX7_readFor 63 = .ok (.invokevirtual 199, 3) := by decide +kernel
theorem dX7_readFor_66 : decode cX7_readFor 66 = .ok (.pop, 1) := by decide +kernel
theorem dX7_readFor_67 : decode cX7_readFor 67 = .ok (.iconst 1, 1) := by decide +kernel
theorem dX7_readFor_68 : decode cX7_readFor 68 = .ok (.ireturn, 1) := by decide +kernel
def o_X7_readFor (N : Nat) (fo_readBlock : (St → Option (Int × St))) (t : St) : Option (Int × St) :=
    bdI (f_X7_putLook N t) fun v2 t1 =>
    bdI (f_X7_pass N t1) fun v4 t3 =>
    cmpI v4 0 (if v4 = 0 then (boI 0 (some (0, t3)))
    else (bdI (f_X7_readEither N 0 t3) fun v6 t5 =>
    cmpI v6 0 (if v6 = 0 then (boI 0 (some (0, t5)))
    else (lt1 (t5.1 303 10) fun v7 =>
    bdV (f_X0_patch N v2 (1 + v7) t5) fun t8 =>
    bdI (f_X0_put N 27 0 t8) fun v10 t9 =>
    bdI (fo_readBlock t9) fun v12 t11 =>
    cmpI v12 0 (if v12 = 0 then (boI 0 (some (0, t11)))
    else (bdI (f_X0_put N 28 0 t11) fun v14 t13 =>
    boI 1 (some (1, t13))))))))
set_option maxHeartbeats 4000000 in
set_option maxRecDepth 100000 in
theorem b_o_X7_readFor {p : Program} {l : Launch} {e : Env} {s : State} {m : MethodId} {args : Array Value} {below : List Frame} {meth : Method} {c : Code} {E : cE} {A : Nat → Prop} {r : Nat → Nat} {mc ms : Nat} {z : Int × St} {N : Nat} {D9 : Nat} {fo_readBlock : (St → Option (Int × St))} (ho_readBlock : ∀ (t : St) (z : Int × St), fo_readBlock t = some z → cM l E yX7_readBlock cX7_readBlock 2 (some .boolean) (rmS_readBlock D9) [.ref (r 303)] (gW E r shH t) (gqI E (gW E r shH) z)) {t : St} (X : gX p s m meth c cX7_readFor 2 (some .boolean) yX7_readFor args E A) (h : o_X7_readFor N fo_readBlock t = some z) : gP p l e (rmS_readBlock (D9 + 1)) s m args below meth c E A 2 (MQ below ((gqI E (gW E r shH) z) A) args s mc ms A) (gW E r shH) 0 [(0, .ref (r 303))] [] t := by
  unfold o_X7_readFor at h
  refine g_aload_n X dX7_readFor_0 0 rfl ?_
  refine g_callOI (rest := []) X (fun u9 h9 => cp_X7_putLook l E r N t u9 h9) yy_X7_putLook yi_X7_putLook wdM_RX7_236 ⟨_, _, oH_303⟩ rfl rfl rfl (Nat.le_of_ble_eq_true rfl) dX7_readFor_1 ⟨by show 1 + 1 ≤ D9 + 1 + 204; omega, by show 8 + (1 + 11) + 23 ≤ 60 * (D9 + 1) + 12088; omega⟩ ⟨rfl, rfl⟩ h (fun v2 t1 h => ?_)
  refine g_istore_n (lv' := [(1, iv v2), (0, .ref (r 303))]) X dX7_readFor_4 rfl (by decide) rfl ?_
  refine g_aload_n X dX7_readFor_5 1 rfl ?_
  refine g_callOI (rest := []) X (fun u9 h9 => cp_X7_pass l E r N t1 u9 h9) yy_X7_pass yi_X7_pass wdM_RX7_127 ⟨_, _, oH_303⟩ rfl rfl rfl (Nat.le_of_ble_eq_true rfl) dX7_readFor_6 ⟨by show 0 + 1 ≤ D9 + 1 + 204; omega, by show 8 + (2 + 11) + 0 ≤ 60 * (D9 + 1) + 12088; omega⟩ ⟨rfl, rfl⟩ h (fun v4 t3 h => ?_)
  refine g_if_eq (tgt := 20) X dX7_readFor_9 (by decide) h (fun h => ?_) (fun h => ?_)
  · refine g_iconst X dX7_readFor_20 ?_
    exact g_zret X h dX7_readFor_21
  · refine g_aload_n X dX7_readFor_12 1 rfl ?_
    refine g_iconst X dX7_readFor_13 ?_
    refine g_callOI (rest := []) X (fun u9 h9 => cp_X7_readEither l E r N 0 t3 u9 h9) yy_X7_readEither yi_X7_readEither wdM_RX7_240 ⟨_, _, oH_303⟩ rfl rfl rfl (Nat.le_of_ble_eq_true rfl) dX7_readFor_14 ⟨by show 202 + 1 ≤ D9 + 1 + 204; omega, by show 8 + (3 + 11) + 12045 ≤ 60 * (D9 + 1) + 12088; omega⟩ ⟨rfl, rfl⟩ h (fun v6 t5 h => ?_)
    refine g_if_ne (tgt := 22) X dX7_readFor_17 (by decide) h (fun h => ?_) (fun h => ?_)
    · refine g_aload_n X dX7_readFor_22 1 rfl ?_
      refine g_getR X fH_X7_19_303 rfl dX7_readFor_23 ?_
      refine g_iload_n X dX7_readFor_26 0 rfl ?_
      refine g_iconst X dX7_readFor_27 ?_
      refine g_aload_n X dX7_readFor_28 1 rfl ?_
      refine g_getI X fH_X7_244_303 rfl dX7_readFor_29 h (fun v7 h => ?_)
      refine g_iadd X dX7_readFor_32 ?_
      refine g_callOV (rest := []) X (fun u9 h9 => cp_X0_patch l E r N v2 (1 + v7) t5 u9 h9) yy_X0_patch yi_X0_patch wdM_RX7_233 ⟨_, _, oH_302⟩ rfl rfl rfl (Nat.le_of_ble_eq_true rfl) dX7_readFor_33 ⟨by show 1 + 1 ≤ D9 + 1 + 204; omega, by show 8 + (3 + 11) + 21 ≤ 60 * (D9 + 1) + 12088; omega⟩ ⟨rfl, rfl⟩ h (fun t8 h => ?_)
      refine g_aload_n X dX7_readFor_36 1 rfl ?_
      refine g_getR X fH_X7_19_303 rfl dX7_readFor_37 ?_
      refine g_bipush X dX7_readFor_40 (by decide) ?_
      refine g_iconst X dX7_readFor_42 ?_
      refine g_callOI (rest := []) X (fun u9 h9 => cp_X0_put l E r N 27 0 t8 u9 h9) yy_X0_put yi_X0_put wdM_RX7_199 ⟨_, _, oH_302⟩ rfl rfl rfl (Nat.le_of_ble_eq_true rfl) dX7_readFor_43 ⟨by show 0 + 1 ≤ D9 + 1 + 204; omega, by show 8 + (4 + 11) + 0 ≤ 60 * (D9 + 1) + 12088; omega⟩ ⟨rfl, rfl⟩ h (fun v10 t9 h => ?_)
      refine g_pop X rfl dX7_readFor_46 ?_
      refine g_aload_n X dX7_readFor_47 1 rfl ?_
      refine g_callOI (rest := []) X (fun u9 h9 => ho_readBlock t9 u9 h9) yy_X7_readBlock yi_X7_readBlock wdM_RX7_196 ⟨_, _, oH_303⟩ rfl rfl rfl (Nat.le_of_ble_eq_true rfl) dX7_readFor_48 ⟨by show D9 + 204 + 1 ≤ D9 + 1 + 204; omega, by show 8 + (2 + 11) + (60 * D9 + 12088) ≤ 60 * (D9 + 1) + 12088; omega⟩ ⟨rfl, rfl⟩ h (fun v12 t11 h => ?_)
      refine g_if_ne (tgt := 56) X dX7_readFor_51 (by decide) h (fun h => ?_) (fun h => ?_)
      · refine g_aload_n X dX7_readFor_56 1 rfl ?_
        refine g_getR X fH_X7_19_303 rfl dX7_readFor_57 ?_
        refine g_bipush X dX7_readFor_60 (by decide) ?_
        refine g_iconst X dX7_readFor_62 ?_
        refine g_callOI (rest := []) X (fun u9 h9 => cp_X0_put l E r N 28 0 t11 u9 h9) yy_X0_put yi_X0_put wdM_RX7_199 ⟨_, _, oH_302⟩ rfl rfl rfl (Nat.le_of_ble_eq_true rfl) dX7_readFor_63 ⟨by show 0 + 1 ≤ D9 + 1 + 204; omega, by show 8 + (4 + 11) + 0 ≤ 60 * (D9 + 1) + 12088; omega⟩ ⟨rfl, rfl⟩ h (fun v14 t13 h => ?_)
        refine g_pop X rfl dX7_readFor_66 ?_
        refine g_iconst X dX7_readFor_67 ?_
        exact g_zret X h dX7_readFor_68
      · refine g_iconst X dX7_readFor_54 ?_
        exact g_zret X h dX7_readFor_55
    · refine g_iconst X dX7_readFor_20 ?_
      exact g_zret X h dX7_readFor_21
set_option maxHeartbeats 4000000 in
set_option maxRecDepth 100000 in
theorem cpo_X7_readFor (l : Launch) (E : cE) (r : Nat → Nat) (N : Nat) (D9 : Nat) (fo_readBlock : (St → Option (Int × St))) (ho_readBlock : ∀ (t : St) (z : Int × St), fo_readBlock t = some z → cM l E yX7_readBlock cX7_readBlock 2 (some .boolean) (rmS_readBlock D9) [.ref (r 303)] (gW E r shH t) (gqI E (gW E r shH) z)) (t : St) (z : Int × St) (h : o_X7_readFor N fo_readBlock t = some z) : cM l E yX7_readFor cX7_readFor 2 (some .boolean) (rmS_readBlock (D9 + 1)) [.ref (r 303)] (gW E r shH t) (gqI E (gW E r shH) z) := by
  refine g_of (w := gW E r shH) (by decide) (Nat.le_of_ble_eq_true rfl) ?_
  intro p e s m below meth c A X
  exact g_sub (lv' := [(0, .ref (r 303))]) [0] rfl (b_o_X7_readFor ho_readBlock X h)
def rec_readBlock (N : Nat) : Nat → (St → Option (Int × St)) × (St → Option (Int × St)) × (St → Option (Int × St)) × (St → Option (Int × St)) × (St → Option (Int × St)) × (St → Option (Int × St))
  | 0 => (fun _ => none, fun _ => none, fun _ => none, fun _ => none, fun _ => none, fun _ => none)
  | D + 1 => (o_X7_readBlock N (rec_readBlock N D).2.1, o_X7_readStatement N (rec_readBlock N D).2.2.1 (rec_readBlock N D).2.2.2.1 (rec_readBlock N D).2.2.2.2.1 (rec_readBlock N D).2.2.2.2.2, o_X7_readRepeat N (rec_readBlock N D).1, o_X7_readUntil N (rec_readBlock N D).1, o_X7_readIf N (rec_readBlock N D).1, o_X7_readFor N (rec_readBlock N D).1)
theorem rec_readBlock_ok (l : Launch) (E : cE) (r : Nat → Nat) (N : Nat) : ∀ D : Nat, (∀ (t : St) (z : Int × St), (rec_readBlock N D).1 t = some z → cM l E yX7_readBlock cX7_readBlock 2 (some .boolean) (rmS_readBlock D) [.ref (r 303)] (gW E r shH t) (gqI E (gW E r shH) z)) ∧ (∀ (t : St) (z : Int × St), (rec_readBlock N D).2.1 t = some z → cM l E yX7_readStatement cX7_readStatement 1 (some .boolean) (rmS_readBlock D) [.ref (r 303)] (gW E r shH t) (gqI E (gW E r shH) z)) ∧ (∀ (t : St) (z : Int × St), (rec_readBlock N D).2.2.1 t = some z → cM l E yX7_readRepeat cX7_readRepeat 2 (some .boolean) (rmS_readBlock D) [.ref (r 303)] (gW E r shH t) (gqI E (gW E r shH) z)) ∧ (∀ (t : St) (z : Int × St), (rec_readBlock N D).2.2.2.1 t = some z → cM l E yX7_readUntil cX7_readUntil 5 (some .boolean) (rmS_readBlock D) [.ref (r 303)] (gW E r shH t) (gqI E (gW E r shH) z)) ∧ (∀ (t : St) (z : Int × St), (rec_readBlock N D).2.2.2.2.1 t = some z → cM l E yX7_readIf cX7_readIf 4 (some .boolean) (rmS_readBlock D) [.ref (r 303)] (gW E r shH t) (gqI E (gW E r shH) z)) ∧ (∀ (t : St) (z : Int × St), (rec_readBlock N D).2.2.2.2.2 t = some z → cM l E yX7_readFor cX7_readFor 2 (some .boolean) (rmS_readBlock D) [.ref (r 303)] (gW E r shH t) (gqI E (gW E r shH) z)) := by
  intro D
  induction D with
  | zero => exact ⟨fun _ _ h => (by cases h), fun _ _ h => (by cases h), fun _ _ h => (by cases h), fun _ _ h => (by cases h), fun _ _ h => (by cases h), fun _ _ h => (by cases h)⟩
  | succ D ih => exact ⟨fun t z h => cpo_X7_readBlock l E r N D _ ih.2.1 t z h, fun t z h => cpo_X7_readStatement l E r N D _ _ _ _ ih.2.2.1 ih.2.2.2.1 ih.2.2.2.2.1 ih.2.2.2.2.2 t z h, fun t z h => cpo_X7_readRepeat l E r N D _ ih.1 t z h, fun t z h => cpo_X7_readUntil l E r N D _ ih.1 t z h, fun t z h => cpo_X7_readIf l E r N D _ ih.1 t z h, fun t z h => cpo_X7_readFor l E r N D _ ih.1 t z h⟩
def f_X7_readBlock (N : Nat) (t : St) : Option (Int × St) := (rec_readBlock N 200).1 t
abbrev rm_f_X7_readBlock : Room := { frames := 404, cells := 0, slots := 0, locals := 24088 }
theorem cp_X7_readBlock (l : Launch) (E : cE) (r : Nat → Nat) (N : Nat) (t : St) (z : Int × St) (h : f_X7_readBlock N t = some z) : cM l E yX7_readBlock cX7_readBlock 2 (some .boolean) rm_f_X7_readBlock [.ref (r 303)] (gW E r shH t) (gqI E (gW E r shH) z) := (rec_readBlock_ok l E r N 200).1 t z h
def f_X7_readStatement (N : Nat) (t : St) : Option (Int × St) := (rec_readBlock N 200).2.1 t
abbrev rm_f_X7_readStatement : Room := { frames := 404, cells := 0, slots := 0, locals := 24088 }
theorem cp_X7_readStatement (l : Launch) (E : cE) (r : Nat → Nat) (N : Nat) (t : St) (z : Int × St) (h : f_X7_readStatement N t = some z) : cM l E yX7_readStatement cX7_readStatement 1 (some .boolean) rm_f_X7_readStatement [.ref (r 303)] (gW E r shH t) (gqI E (gW E r shH) z) := (rec_readBlock_ok l E r N 200).2.1 t z h
def f_X7_readRepeat (N : Nat) (t : St) : Option (Int × St) := (rec_readBlock N 200).2.2.1 t
abbrev rm_f_X7_readRepeat : Room := { frames := 404, cells := 0, slots := 0, locals := 24088 }
theorem cp_X7_readRepeat (l : Launch) (E : cE) (r : Nat → Nat) (N : Nat) (t : St) (z : Int × St) (h : f_X7_readRepeat N t = some z) : cM l E yX7_readRepeat cX7_readRepeat 2 (some .boolean) rm_f_X7_readRepeat [.ref (r 303)] (gW E r shH t) (gqI E (gW E r shH) z) := (rec_readBlock_ok l E r N 200).2.2.1 t z h
def f_X7_readUntil (N : Nat) (t : St) : Option (Int × St) := (rec_readBlock N 200).2.2.2.1 t
abbrev rm_f_X7_readUntil : Room := { frames := 404, cells := 0, slots := 0, locals := 24088 }
theorem cp_X7_readUntil (l : Launch) (E : cE) (r : Nat → Nat) (N : Nat) (t : St) (z : Int × St) (h : f_X7_readUntil N t = some z) : cM l E yX7_readUntil cX7_readUntil 5 (some .boolean) rm_f_X7_readUntil [.ref (r 303)] (gW E r shH t) (gqI E (gW E r shH) z) := (rec_readBlock_ok l E r N 200).2.2.2.1 t z h
def f_X7_readIf (N : Nat) (t : St) : Option (Int × St) := (rec_readBlock N 200).2.2.2.2.1 t
abbrev rm_f_X7_readIf : Room := { frames := 404, cells := 0, slots := 0, locals := 24088 }
theorem cp_X7_readIf (l : Launch) (E : cE) (r : Nat → Nat) (N : Nat) (t : St) (z : Int × St) (h : f_X7_readIf N t = some z) : cM l E yX7_readIf cX7_readIf 4 (some .boolean) rm_f_X7_readIf [.ref (r 303)] (gW E r shH t) (gqI E (gW E r shH) z) := (rec_readBlock_ok l E r N 200).2.2.2.2.1 t z h
def f_X7_readFor (N : Nat) (t : St) : Option (Int × St) := (rec_readBlock N 200).2.2.2.2.2 t
abbrev rm_f_X7_readFor : Room := { frames := 404, cells := 0, slots := 0, locals := 24088 }
theorem cp_X7_readFor (l : Launch) (E : cE) (r : Nat → Nat) (N : Nat) (t : St) (z : Int × St) (h : f_X7_readFor N t = some z) : cM l E yX7_readFor cX7_readFor 2 (some .boolean) rm_f_X7_readFor [.ref (r 303)] (gW E r shH t) (gqI E (gW E r shH) z) := (rec_readBlock_ok l E r N 200).2.2.2.2.2 t z h
theorem dX7_readPart_0 : decode cX7_readPart 0 = .ok (.aload_n 0, 1) := by decide +kernel
theorem dX7_readPart_1 : decode cX7_readPart 1 = .ok (.iconst 1, 1) := by decide +kernel
theorem dX7_readPart_2 : decode cX7_readPart 2 = .ok (.putfield 99, 3) := by decide +kernel
theorem dX7_readPart_5 : decode cX7_readPart 5 = .ok (.aload_n 0, 1) := by decide +kernel
theorem dX7_readPart_6 : decode cX7_readPart 6 = .ok (.getfield 19, 3) := by decide +kernel
theorem dX7_readPart_9 : decode cX7_readPart 9 = .ok (.getfield 119, 3) := by decide +kernel
theorem dX7_readPart_12 : decode cX7_readPart 12 = .ok (.istore_n 1, 1) := by decide +kernel
theorem dX7_readPart_13 : decode cX7_readPart 13 = .ok (.aload_n 0, 1) := by decide +kernel
theorem dX7_readPart_14 : decode cX7_readPart 14 = .ok (.getfield 77, 3) := by decide +kernel
theorem dX7_readPart_17 : decode cX7_readPart 17 = .ok (.iconst 1, 1) := by decide +kernel
theorem dX7_readPart_18 : decode cX7_readPart 18 = .ok (.iadd, 1) := by decide +kernel
theorem dX7_readPart_19 : decode cX7_readPart 19 = .ok (.istore_n 2, 1) := by decide +kernel
theorem dX7_readPart_20 : decode cX7_readPart 20 = .ok (.aload_n 0, 1) := by decide +kernel
theorem dX7_readPart_21 : decode cX7_readPart 21 = .ok (.getfield 19, 3) := by decide +kernel
theorem dX7_readPart_24 : decode cX7_readPart 24 = .ok (.getfield 113, 3) := by decide +kernel
theorem dX7_readPart_27 : decode cX7_readPart 27 = .ok (.invokevirtual 140, 3) := by decide +kernel
theorem dX7_readPart_30 : decode cX7_readPart 30 = .ok (.ifCond .eq 9, 3) := by decide +kernel
theorem dX7_readPart_33 : decode cX7_readPart 33 = .ok (.aload_n 0, 1) := by decide +kernel
theorem dX7_readPart_34 : decode cX7_readPart 34 = .ok (.iconst 5, 1) := by decide +kernel
theorem dX7_readPart_35 : decode cX7_readPart 35 = .ok (.invokevirtual 48, 3) := by decide +kernel
theorem dX7_readPart_38 : decode cX7_readPart 38 = .ok (.ireturn, 1) := by decide +kernel
theorem dX7_readPart_39 : decode cX7_readPart 39 = .ok (.aload_n 0, 1) := by decide +kernel
theorem dX7_readPart_40 : decode cX7_readPart 40 = .ok (.invokevirtual 127, 3) := by decide +kernel
theorem dX7_readPart_43 : decode cX7_readPart 43 = .ok (.ifCond .eq 17, 3) := by decide +kernel
theorem dX7_readPart_46 : decode cX7_readPart 46 = .ok (.aload_n 0, 1) := by decide +kernel
theorem dX7_readPart_47 : decode cX7_readPart 47 = .ok (.invokevirtual 143, 3) := by decide +kernel
theorem dX7_readPart_50 : decode cX7_readPart 50 = .ok (.ifCond .eq 10, 3) := by decide +kernel
theorem dX7_readPart_53 : decode cX7_readPart 53 = .ok (.aload_n 0, 1) := by decide +kernel
theorem dX7_readPart_54 : decode cX7_readPart 54 = .ok (.invokevirtual 196, 3) := by decide +kernel
theorem dX7_readPart_57 : decode cX7_readPart 57 = .ok (.ifCond .ne 5, 3) := by decide +kernel
theorem dX7_readPart_60 : decode cX7_readPart 60 = .ok (.iconst 0, 1) := by decide +kernel
theorem dX7_readPart_61 : decode cX7_readPart 61 = .ok (.ireturn, 1) := by decide +kernel
theorem dX7_readPart_62 : decode cX7_readPart 62 = .ok (.aload_n 0, 1) := by decide +kernel
theorem dX7_readPart_63 : decode cX7_readPart 63 = .ok (.getfield 19, 3) := by decide +kernel
theorem dX7_readPart_66 : decode cX7_readPart 66 = .ok (.bipush 29, 2) := by decide +kernel
theorem dX7_readPart_68 : decode cX7_readPart 68 = .ok (.iconst 0, 1) := by decide +kernel
theorem dX7_readPart_69 : decode cX7_readPart 69 = .ok (.invokevirtual 199, 3) := by decide +kernel
theorem dX7_readPart_72 : decode cX7_readPart 72 = .ok (.pop, 1) := by decide +kernel
theorem dX7_readPart_73 : decode cX7_readPart 73 = .ok (.aload_n 0, 1) := by decide +kernel
theorem dX7_readPart_74 : decode cX7_readPart 74 = .ok (.getfield 19, 3) := by decide +kernel
theorem dX7_readPart_77 : decode cX7_readPart 77 = .ok (.getfield 202, 3) := by decide +kernel
theorem dX7_readPart_80 : decode cX7_readPart 80 = .ok (.aload_n 0, 1) := by decide +kernel
theorem dX7_readPart_81 : decode cX7_readPart 81 = .ok (.getfield 19, 3) := by decide +kernel
theorem dX7_readPart_84 : decode cX7_readPart 84 = .ok (.getfield 113, 3) := by decide +kernel
theorem dX7_readPart_87 : decode cX7_readPart 87 = .ok (.getfield 107, 3) := by decide +kernel
theorem dX7_readPart_90 : decode cX7_readPart 90 = .ok (.iload_n 1, 1) := by decide +kernel
theorem dX7_readPart_91 : decode cX7_readPart 91 = .ok (.iastore, 1) := by decide +kernel
theorem dX7_readPart_92 : decode cX7_readPart 92 = .ok (.aload_n 0, 1) := by decide +kernel
theorem dX7_readPart_93 : decode cX7_readPart 93 = .ok (.getfield 19, 3) := by decide +kernel
theorem dX7_readPart_96 : decode cX7_readPart 96 = .ok (.getfield 113, 3) := by decide +kernel
theorem dX7_readPart_99 : decode cX7_readPart 99 = .ok (.aload_n 0, 1) := by decide +kernel
theorem dX7_readPart_100 : decode cX7_readPart 100 = .ok (.getfield 15, 3) := by decide +kernel
theorem dX7_readPart_103 : decode cX7_readPart 103 = .ok (.getfield 67, 3) := by decide +kernel
theorem dX7_readPart_106 : decode cX7_readPart 106 = .ok (.iload_n 2, 1) := by decide +kernel
theorem dX7_readPart_107 : decode cX7_readPart 107 = .ok (.invokevirtual 146, 3) := by decide +kernel
theorem dX7_readPart_110 : decode cX7_readPart 110 = .ok (.aload_n 0, 1) := by decide +kernel
theorem dX7_readPart_111 : decode cX7_readPart 111 = .ok (.iconst 0, 1) := by decide +kernel
theorem dX7_readPart_112 : decode cX7_readPart 112 = .ok (.putfield 99, 3) := by decide +kernel
theorem dX7_readPart_115 : decode cX7_readPart 115 = .ok (.iconst 1, 1) := by decide +kernel
theorem dX7_readPart_116 : decode cX7_readPart 116 = .ok (.ireturn, 1) := by decide +kernel
abbrev rm_f_X7_readPart : Room := { frames := 405, cells := 0, slots := 0, locals := 24109 }
def f_X7_readPart (N : Nat) (t : St) : Option (Int × St) :=
    boI 1 (lt1 (pI t 303 7 1) fun t1 =>
    lt1 (t1.1 302 18) fun v2 =>
    lt1 (t1.1 303 2) fun v3 =>
    bdI (f_X6_isFull N 2 t1) fun v5 t4 =>
    cmpI v5 0 (if v5 = 0 then (bdI (f_X7_pass N t4) fun v7 t6 =>
    cmpI v7 0 (if v7 = 0 then (boI 0 (some (0, t6)))
    else (bdI (f_X7_takeNew N t6) fun v9 t8 =>
    cmpI v9 0 (if v9 = 0 then (boI 0 (some (0, t8)))
    else (bdI (f_X7_readBlock N t8) fun v11 t10 =>
    cmpI v11 0 (if v11 = 0 then (boI 0 (some (0, t10)))
    else (bdI (f_X0_put N 29 0 t10) fun v13 t12 =>
    lt1 (t12.1 (312 + 2) 2) fun v14 =>
    ixI v14 60 (lt1 (pI t12 360 v14.toNat v2) fun t15 =>
    bdV (f_X6_add N 2 335 12294 (v3 + 1) t15) fun t16 =>
    boI 0 (lt1 (pI t16 303 7 0) fun t17 =>
    boI 1 (some (1, t17)))))))))))
    else (bdI (f_X7_wrong N 5 t4) fun v19 t18 =>
    boI v19 (some (v19, t18)))))
set_option maxHeartbeats 4000000 in
set_option maxRecDepth 100000 in
theorem b_f_X7_readPart {p : Program} {l : Launch} {e : Env} {s : State} {m : MethodId} {args : Array Value} {below : List Frame} {meth : Method} {c : Code} {E : cE} {A : Nat → Prop} {r : Nat → Nat} {mc ms : Nat} {z : Int × St} {N : Nat} {t : St} (X : gX p s m meth c cX7_readPart 3 (some .boolean) yX7_readPart args E A) (h : f_X7_readPart N t = some z) : gP p l e rm_f_X7_readPart s m args below meth c E A 3 (MQ below ((gqI E (gW E r shH) z) A) args s mc ms A) (gW E r shH) 0 [(0, .ref (r 303))] [] t := by
  unfold f_X7_readPart at h
  refine g_aload_n X dX7_readPart_0 0 rfl ?_
  refine g_iconst X dX7_readPart_1 ?_
  refine g_putZ X fH_X7_99_303w rfl dX7_readPart_2 h (fun t1 h => ?_)
  refine g_aload_n X dX7_readPart_5 0 rfl ?_
  refine g_getR X fH_X7_19_303 rfl dX7_readPart_6 ?_
  refine g_getI X fH_X7_119_302 rfl dX7_readPart_9 h (fun v2 h => ?_)
  refine g_istore_n (lv' := [(1, iv v2), (0, .ref (r 303))]) X dX7_readPart_12 rfl (by decide) rfl ?_
  refine g_aload_n X dX7_readPart_13 1 rfl ?_
  refine g_getI X fH_X7_77_303 rfl dX7_readPart_14 h (fun v3 h => ?_)
  refine g_iconst X dX7_readPart_17 ?_
  refine g_iadd X dX7_readPart_18 ?_
  refine g_istore_n (lv' := [(2, iv (v3 + 1)), (1, iv v2), (0, .ref (r 303))]) X dX7_readPart_19 rfl (by decide) rfl ?_
  refine g_aload_n X dX7_readPart_20 2 rfl ?_
  refine g_getR X fH_X7_19_303 rfl dX7_readPart_21 ?_
  refine g_getR X fH_X7_113_302 rfl dX7_readPart_24 ?_
  refine g_callOI (rest := []) X (fun u9 h9 => cp_X6_isFull l E r N 2 (by decide) t1 u9 h9) yy_X6_isFull yi_X6_isFull wdM_RX7_140 (oX6 (o := 2) (by decide)) rfl rfl rfl (Nat.le_of_ble_eq_true rfl) dX7_readPart_27 ⟨by decide, by decide⟩ ⟨rfl, rfl⟩ h (fun v5 t4 h => ?_)
  refine g_if_eq (tgt := 39) X dX7_readPart_30 (by decide) h (fun h => ?_) (fun h => ?_)
  · refine g_aload_n X dX7_readPart_39 2 rfl ?_
    refine g_callOI (rest := []) X (fun u9 h9 => cp_X7_pass l E r N t4 u9 h9) yy_X7_pass yi_X7_pass wdM_RX7_127 ⟨_, _, oH_303⟩ rfl rfl rfl (Nat.le_of_ble_eq_true rfl) dX7_readPart_40 ⟨by decide, by decide⟩ ⟨rfl, rfl⟩ h (fun v7 t6 h => ?_)
    refine g_if_eq (tgt := 60) X dX7_readPart_43 (by decide) h (fun h => ?_) (fun h => ?_)
    · refine g_iconst X dX7_readPart_60 ?_
      exact g_zret X h dX7_readPart_61
    · refine g_aload_n X dX7_readPart_46 2 rfl ?_
      refine g_callOI (rest := []) X (fun u9 h9 => cp_X7_takeNew l E r N t6 u9 h9) yy_X7_takeNew yi_X7_takeNew wdM_RX7_143 ⟨_, _, oH_303⟩ rfl rfl rfl (Nat.le_of_ble_eq_true rfl) dX7_readPart_47 ⟨by decide, by decide⟩ ⟨rfl, rfl⟩ h (fun v9 t8 h => ?_)
      refine g_if_eq (tgt := 60) X dX7_readPart_50 (by decide) h (fun h => ?_) (fun h => ?_)
      · refine g_iconst X dX7_readPart_60 ?_
        exact g_zret X h dX7_readPart_61
      · refine g_aload_n X dX7_readPart_53 2 rfl ?_
        refine g_callOI (rest := []) X (fun u9 h9 => cp_X7_readBlock l E r N t8 u9 h9) yy_X7_readBlock yi_X7_readBlock wdM_RX7_196 ⟨_, _, oH_303⟩ rfl rfl rfl (Nat.le_of_ble_eq_true rfl) dX7_readPart_54 ⟨by decide, by decide⟩ ⟨rfl, rfl⟩ h (fun v11 t10 h => ?_)
        refine g_if_ne (tgt := 62) X dX7_readPart_57 (by decide) h (fun h => ?_) (fun h => ?_)
        · refine g_aload_n X dX7_readPart_62 2 rfl ?_
          refine g_getR X fH_X7_19_303 rfl dX7_readPart_63 ?_
          refine g_bipush X dX7_readPart_66 (by decide) ?_
          refine g_iconst X dX7_readPart_68 ?_
          refine g_callOI (rest := []) X (fun u9 h9 => cp_X0_put l E r N 29 0 t10 u9 h9) yy_X0_put yi_X0_put wdM_RX7_199 ⟨_, _, oH_302⟩ rfl rfl rfl (Nat.le_of_ble_eq_true rfl) dX7_readPart_69 ⟨by decide, by decide⟩ ⟨rfl, rfl⟩ h (fun v13 t12 h => ?_)
          refine g_pop X rfl dX7_readPart_72 ?_
          refine g_aload_n X dX7_readPart_73 2 rfl ?_
          refine g_getR X fH_X7_19_303 rfl dX7_readPart_74 ?_
          refine g_getR X fH_X7_202_302 rfl dX7_readPart_77 ?_
          refine g_aload_n X dX7_readPart_80 2 rfl ?_
          refine g_getR X fH_X7_19_303 rfl dX7_readPart_81 ?_
          refine g_getR X fH_X7_113_302 rfl dX7_readPart_84 ?_
          refine g_getI X (fH_X7_107_o (o := 2) (by decide)) rfl dX7_readPart_87 h (fun v14 h => ?_)
          refine g_iload_n X dX7_readPart_90 1 rfl ?_
          refine g_iast X aH_360 dX7_readPart_91 h (fun t15 h => ?_)
          refine g_aload_n X dX7_readPart_92 2 rfl ?_
          refine g_getR X fH_X7_19_303 rfl dX7_readPart_93 ?_
          refine g_getR X fH_X7_113_302 rfl dX7_readPart_96 ?_
          refine g_aload_n X dX7_readPart_99 2 rfl ?_
          refine g_getR X fH_X7_15_303 rfl dX7_readPart_100 ?_
          refine g_getR X fH_X7_67_301 rfl dX7_readPart_103 ?_
          refine g_iload_n X dX7_readPart_106 0 rfl ?_
          refine g_callOV (rest := []) X (fun u9 h9 => cp_X6_add l E r N 2 (by decide) 335 12294 aH_335 (v3 + 1) t15 u9 h9) yy_X6_add yi_X6_add wdM_RX7_146 (oX6 (o := 2) (by decide)) rfl rfl rfl (Nat.le_of_ble_eq_true rfl) dX7_readPart_107 ⟨by decide, by decide⟩ ⟨rfl, rfl⟩ h (fun t16 h => ?_)
          refine g_aload_n X dX7_readPart_110 2 rfl ?_
          refine g_iconst X dX7_readPart_111 ?_
          refine g_putZ X fH_X7_99_303w rfl dX7_readPart_112 h (fun t17 h => ?_)
          refine g_iconst X dX7_readPart_115 ?_
          exact g_zret X h dX7_readPart_116
        · refine g_iconst X dX7_readPart_60 ?_
          exact g_zret X h dX7_readPart_61
  · refine g_aload_n X dX7_readPart_33 2 rfl ?_
    refine g_iconst X dX7_readPart_34 ?_
    refine g_callOI (rest := []) X (fun u9 h9 => cp_X7_wrong l E r N 5 t4 u9 h9) yy_X7_wrong yi_X7_wrong wdM_RX7_48 ⟨_, _, oH_303⟩ rfl rfl rfl (Nat.le_of_ble_eq_true rfl) dX7_readPart_35 ⟨by decide, by decide⟩ ⟨rfl, rfl⟩ h (fun v19 t18 h => ?_)
    exact g_zret X h dX7_readPart_38
set_option maxHeartbeats 4000000 in
set_option maxRecDepth 100000 in
theorem cp_X7_readPart (l : Launch) (E : cE) (r : Nat → Nat) (N : Nat) (t : St) (z : Int × St) (h : f_X7_readPart N t = some z) : cM l E yX7_readPart cX7_readPart 3 (some .boolean) rm_f_X7_readPart [.ref (r 303)] (gW E r shH t) (gqI E (gW E r shH) z) := by
  refine g_of (w := gW E r shH) (by decide) (Nat.le_of_ble_eq_true rfl) ?_
  intro p e s m below meth c A X
  exact g_sub (lv' := [(0, .ref (r 303))]) [0] rfl (b_f_X7_readPart X h)
theorem yy_X7_readPart : cY yX7_readPart cX7_readPart 3 (some .boolean) 0 := ⟨wdK_X7_readPart, wdZ_RX7, by decide +kernel⟩
theorem yi_X7_readPart : cYi yX7_readPart := ⟨wdN_X7_readPart, wdS_X7_readPart⟩
theorem dX7_readAllow_0 : decode cX7_readAllow 0 = .ok (.aload_n 0, 1) := by decide +kernel
theorem dX7_readAllow_1 : decode cX7_readAllow 1 = .ok (.iconst 1, 1) := by decide +kernel
theorem dX7_readAllow_2 : decode cX7_readAllow 2 = .ok (.putfield 99, 3) := by decide +kernel
theorem dX7_readAllow_5 : decode cX7_readAllow 5 = .ok (.aload_n 0, 1) := by decide +kernel
theorem dX7_readAllow_6 : decode cX7_readAllow 6 = .ok (.getfield 19, 3) := by decide +kernel
theorem dX7_readAllow_9 : decode cX7_readAllow 9 = .ok (.getfield 119, 3) := by decide +kernel
theorem dX7_readAllow_12 : decode cX7_readAllow 12 = .ok (.istore_n 1, 1) := by decide +kernel
theorem dX7_readAllow_13 : decode cX7_readAllow 13 = .ok (.aload_n 0, 1) := by decide +kernel
theorem dX7_readAllow_14 : decode cX7_readAllow 14 = .ok (.getfield 19, 3) := by decide +kernel
theorem dX7_readAllow_17 : decode cX7_readAllow 17 = .ok (.getfield 116, 3) := by decide +kernel
theorem dX7_readAllow_20 : decode cX7_readAllow 20 = .ok (.bipush 32, 2) := by decide +kernel
theorem dX7_readAllow_22 : decode cX7_readAllow 22 = .ok (.if_icmp .lt 9, 3) := by decide +kernel
theorem dX7_readAllow_25 : decode cX7_readAllow 25 = .ok (.aload_n 0, 1) := by decide +kernel
theorem dX7_readAllow_26 : decode cX7_readAllow 26 = .ok (.iconst 5, 1) := by decide +kernel
theorem dX7_readAllow_27 : decode cX7_readAllow 27 = .ok (.invokevirtual 48, 3) := by decide +kernel
theorem dX7_readAllow_30 : decode cX7_readAllow 30 = .ok (.ireturn, 1) := by decide +kernel
theorem dX7_readAllow_31 : decode cX7_readAllow 31 = .ok (.aload_n 0, 1) := by decide +kernel
theorem dX7_readAllow_32 : decode cX7_readAllow 32 = .ok (.invokevirtual 127, 3) := by decide +kernel
theorem dX7_readAllow_35 : decode cX7_readAllow 35 = .ok (.ifCond .eq 19, 3) := by decide +kernel
theorem dX7_readAllow_38 : decode cX7_readAllow 38 = .ok (.aload_n 0, 1) := by decide +kernel
theorem dX7_readAllow_39 : decode cX7_readAllow 39 = .ok (.invokevirtual 55, 3) := by decide +kernel
theorem dX7_readAllow_42 : decode cX7_readAllow 42 = .ok (.ifCond .eq 12, 3) := by decide +kernel
theorem dX7_readAllow_45 : decode cX7_readAllow 45 = .ok (.aload_n 0, 1) := by decide +kernel
theorem dX7_readAllow_46 : decode cX7_readAllow 46 = .ok (.bipush 45, 2) := by decide +kernel
theorem dX7_readAllow_48 : decode cX7_readAllow 48 = .ok (.invokevirtual 58, 3) := by decide +kernel
theorem dX7_readAllow_51 : decode cX7_readAllow 51 = .ok (.ifCond .ne 5, 3) := by decide +kernel
theorem dX7_readAllow_54 : decode cX7_readAllow 54 = .ok (.iconst 0, 1) := by decide +kernel
theorem dX7_readAllow_55 : decode cX7_readAllow 55 = .ok (.ireturn, 1) := by decide +kernel
theorem dX7_readAllow_56 : decode cX7_readAllow 56 = .ok (.aload_n 0, 1) := by decide +kernel
theorem dX7_readAllow_57 : decode cX7_readAllow 57 = .ok (.getfield 19, 3) := by decide +kernel
theorem dX7_readAllow_60 : decode cX7_readAllow 60 = .ok (.iload_n 1, 1) := by decide +kernel
theorem dX7_readAllow_61 : decode cX7_readAllow 61 = .ok (.aload_n 0, 1) := by decide +kernel
theorem dX7_readAllow_62 : decode cX7_readAllow 62 = .ok (.getfield 205, 3) := by decide +kernel
theorem dX7_readAllow_65 : decode cX7_readAllow 65 = .ok (.invokevirtual 208, 3) := by decide +kernel
theorem dX7_readAllow_68 : decode cX7_readAllow 68 = .ok (.aload_n 0, 1) := by decide +kernel
theorem dX7_readAllow_69 : decode cX7_readAllow 69 = .ok (.iconst 0, 1) := by decide +kernel
theorem dX7_readAllow_70 : decode cX7_readAllow 70 = .ok (.putfield 99, 3) := by decide +kernel
theorem dX7_readAllow_73 : decode cX7_readAllow 73 = .ok (.iconst 1, 1) := by decide +kernel
theorem dX7_readAllow_74 : decode cX7_readAllow 74 = .ok (.ireturn, 1) := by decide +kernel
abbrev rm_f_X7_readAllow : Room := { frames := 204, cells := 0, slots := 0, locals := 12088 }
def f_X7_readAllow (N : Nat) (t : St) : Option (Int × St) :=
    boI 1 (lt1 (pI t 303 7 1) fun t1 =>
    lt1 (t1.1 302 18) fun v2 =>
    lt1 (t1.1 302 16) fun v3 =>
    cmpI v3 32 (if v3 < 32 then (bdI (f_X7_pass N t1) fun v5 t4 =>
    cmpI v5 0 (if v5 = 0 then (boI 0 (some (0, t4)))
    else (bdI (f_X7_readStep N t4) fun v7 t6 =>
    cmpI v7 0 (if v7 = 0 then (boI 0 (some (0, t6)))
    else (bdI (f_X7_take N 45 t6) fun v9 t8 =>
    cmpI v9 0 (if v9 = 0 then (boI 0 (some (0, t8)))
    else (lt1 (t8.1 303 11) fun v10 =>
    bdV (f_X0_addAllow N v2 v10 t8) fun t11 =>
    boI 0 (lt1 (pI t11 303 7 0) fun t12 =>
    boI 1 (some (1, t12))))))))))
    else (bdI (f_X7_wrong N 5 t1) fun v14 t13 =>
    boI v14 (some (v14, t13)))))
set_option maxHeartbeats 4000000 in
set_option maxRecDepth 100000 in
theorem b_f_X7_readAllow {p : Program} {l : Launch} {e : Env} {s : State} {m : MethodId} {args : Array Value} {below : List Frame} {meth : Method} {c : Code} {E : cE} {A : Nat → Prop} {r : Nat → Nat} {mc ms : Nat} {z : Int × St} {N : Nat} {t : St} (X : gX p s m meth c cX7_readAllow 2 (some .boolean) yX7_readAllow args E A) (h : f_X7_readAllow N t = some z) : gP p l e rm_f_X7_readAllow s m args below meth c E A 2 (MQ below ((gqI E (gW E r shH) z) A) args s mc ms A) (gW E r shH) 0 [(0, .ref (r 303))] [] t := by
  unfold f_X7_readAllow at h
  refine g_aload_n X dX7_readAllow_0 0 rfl ?_
  refine g_iconst X dX7_readAllow_1 ?_
  refine g_putZ X fH_X7_99_303w rfl dX7_readAllow_2 h (fun t1 h => ?_)
  refine g_aload_n X dX7_readAllow_5 0 rfl ?_
  refine g_getR X fH_X7_19_303 rfl dX7_readAllow_6 ?_
  refine g_getI X fH_X7_119_302 rfl dX7_readAllow_9 h (fun v2 h => ?_)
  refine g_istore_n (lv' := [(1, iv v2), (0, .ref (r 303))]) X dX7_readAllow_12 rfl (by decide) rfl ?_
  refine g_aload_n X dX7_readAllow_13 1 rfl ?_
  refine g_getR X fH_X7_19_303 rfl dX7_readAllow_14 ?_
  refine g_getI X fH_X7_116_302 rfl dX7_readAllow_17 h (fun v3 h => ?_)
  refine g_bipush X dX7_readAllow_20 (by decide) ?_
  refine g_icmp_lt (tgt := 31) X dX7_readAllow_22 (by decide) h (fun h => ?_) (fun h => ?_)
  · refine g_aload_n X dX7_readAllow_31 1 rfl ?_
    refine g_callOI (rest := []) X (fun u9 h9 => cp_X7_pass l E r N t1 u9 h9) yy_X7_pass yi_X7_pass wdM_RX7_127 ⟨_, _, oH_303⟩ rfl rfl rfl (Nat.le_of_ble_eq_true rfl) dX7_readAllow_32 ⟨by decide, by decide⟩ ⟨rfl, rfl⟩ h (fun v5 t4 h => ?_)
    refine g_if_eq (tgt := 54) X dX7_readAllow_35 (by decide) h (fun h => ?_) (fun h => ?_)
    · refine g_iconst X dX7_readAllow_54 ?_
      exact g_zret X h dX7_readAllow_55
    · refine g_aload_n X dX7_readAllow_38 1 rfl ?_
      refine g_callOI (rest := []) X (fun u9 h9 => cp_X7_readStep l E r N t4 u9 h9) yy_X7_readStep yi_X7_readStep wdM_RX7_55 ⟨_, _, oH_303⟩ rfl rfl rfl (Nat.le_of_ble_eq_true rfl) dX7_readAllow_39 ⟨by decide, by decide⟩ ⟨rfl, rfl⟩ h (fun v7 t6 h => ?_)
      refine g_if_eq (tgt := 54) X dX7_readAllow_42 (by decide) h (fun h => ?_) (fun h => ?_)
      · refine g_iconst X dX7_readAllow_54 ?_
        exact g_zret X h dX7_readAllow_55
      · refine g_aload_n X dX7_readAllow_45 1 rfl ?_
        refine g_bipush X dX7_readAllow_46 (by decide) ?_
        refine g_callOI (rest := []) X (fun u9 h9 => cp_X7_take l E r N 45 t6 u9 h9) yy_X7_take yi_X7_take wdM_RX7_58 ⟨_, _, oH_303⟩ rfl rfl rfl (Nat.le_of_ble_eq_true rfl) dX7_readAllow_48 ⟨by decide, by decide⟩ ⟨rfl, rfl⟩ h (fun v9 t8 h => ?_)
        refine g_if_ne (tgt := 56) X dX7_readAllow_51 (by decide) h (fun h => ?_) (fun h => ?_)
        · refine g_aload_n X dX7_readAllow_56 1 rfl ?_
          refine g_getR X fH_X7_19_303 rfl dX7_readAllow_57 ?_
          refine g_iload_n X dX7_readAllow_60 0 rfl ?_
          refine g_aload_n X dX7_readAllow_61 1 rfl ?_
          refine g_getI X fH_X7_205_303 rfl dX7_readAllow_62 h (fun v10 h => ?_)
          refine g_callOV (rest := []) X (fun u9 h9 => cp_X0_addAllow l E r N v2 v10 t8 u9 h9) yy_X0_addAllow yi_X0_addAllow wdM_RX7_208 ⟨_, _, oH_302⟩ rfl rfl rfl (Nat.le_of_ble_eq_true rfl) dX7_readAllow_65 ⟨by decide, by decide⟩ ⟨rfl, rfl⟩ h (fun t11 h => ?_)
          refine g_aload_n X dX7_readAllow_68 1 rfl ?_
          refine g_iconst X dX7_readAllow_69 ?_
          refine g_putZ X fH_X7_99_303w rfl dX7_readAllow_70 h (fun t12 h => ?_)
          refine g_iconst X dX7_readAllow_73 ?_
          exact g_zret X h dX7_readAllow_74
        · refine g_iconst X dX7_readAllow_54 ?_
          exact g_zret X h dX7_readAllow_55
  · refine g_aload_n X dX7_readAllow_25 1 rfl ?_
    refine g_iconst X dX7_readAllow_26 ?_
    refine g_callOI (rest := []) X (fun u9 h9 => cp_X7_wrong l E r N 5 t1 u9 h9) yy_X7_wrong yi_X7_wrong wdM_RX7_48 ⟨_, _, oH_303⟩ rfl rfl rfl (Nat.le_of_ble_eq_true rfl) dX7_readAllow_27 ⟨by decide, by decide⟩ ⟨rfl, rfl⟩ h (fun v14 t13 h => ?_)
    exact g_zret X h dX7_readAllow_30
set_option maxHeartbeats 4000000 in
set_option maxRecDepth 100000 in
theorem cp_X7_readAllow (l : Launch) (E : cE) (r : Nat → Nat) (N : Nat) (t : St) (z : Int × St) (h : f_X7_readAllow N t = some z) : cM l E yX7_readAllow cX7_readAllow 2 (some .boolean) rm_f_X7_readAllow [.ref (r 303)] (gW E r shH t) (gqI E (gW E r shH) z) := by
  refine g_of (w := gW E r shH) (by decide) (Nat.le_of_ble_eq_true rfl) ?_
  intro p e s m below meth c A X
  exact g_sub (lv' := [(0, .ref (r 303))]) [0] rfl (b_f_X7_readAllow X h)
theorem yy_X7_readAllow : cY yX7_readAllow cX7_readAllow 2 (some .boolean) 0 := ⟨wdK_X7_readAllow, wdZ_RX7, by decide +kernel⟩
theorem yi_X7_readAllow : cYi yX7_readAllow := ⟨wdN_X7_readAllow, wdS_X7_readAllow⟩
theorem dX7_revert_0 : decode cX7_revert 0 = .ok (.aload_n 0, 1) := by decide +kernel
theorem dX7_revert_1 : decode cX7_revert 1 = .ok (.getfield 19, 3) := by decide +kernel
theorem dX7_revert_4 : decode cX7_revert 4 = .ok (.getfield 103, 3) := by decide +kernel
theorem dX7_revert_7 : decode cX7_revert 7 = .ok (.aload_n 0, 1) := by decide +kernel
theorem dX7_revert_8 : decode cX7_revert 8 = .ok (.getfield 9, 3) := by decide +kernel
theorem dX7_revert_11 : decode cX7_revert 11 = .ok (.iconst 0, 1) := by decide +kernel
theorem dX7_revert_12 : decode cX7_revert 12 = .ok (.iaload, 1) := by decide +kernel
theorem dX7_revert_13 : decode cX7_revert 13 = .ok (.putfield 107, 3) := by decide +kernel
theorem dX7_revert_16 : decode cX7_revert 16 = .ok (.aload_n 0, 1) := by decide +kernel
theorem dX7_revert_17 : decode cX7_revert 17 = .ok (.getfield 19, 3) := by decide +kernel
theorem dX7_revert_20 : decode cX7_revert 20 = .ok (.getfield 110, 3) := by decide +kernel
theorem dX7_revert_23 : decode cX7_revert 23 = .ok (.aload_n 0, 1) := by decide +kernel
theorem dX7_revert_24 : decode cX7_revert 24 = .ok (.getfield 9, 3) := by decide +kernel
theorem dX7_revert_27 : decode cX7_revert 27 = .ok (.iconst 1, 1) := by decide +kernel
theorem dX7_revert_28 : decode cX7_revert 28 = .ok (.iaload, 1) := by decide +kernel
theorem dX7_revert_29 : decode cX7_revert 29 = .ok (.putfield 107, 3) := by decide +kernel
theorem dX7_revert_32 : decode cX7_revert 32 = .ok (.aload_n 0, 1) := by decide +kernel
theorem dX7_revert_33 : decode cX7_revert 33 = .ok (.getfield 19, 3) := by decide +kernel
theorem dX7_revert_36 : decode cX7_revert 36 = .ok (.getfield 113, 3) := by decide +kernel
theorem dX7_revert_39 : decode cX7_revert 39 = .ok (.aload_n 0, 1) := by decide +kernel
theorem dX7_revert_40 : decode cX7_revert 40 = .ok (.getfield 9, 3) := by decide +kernel
theorem dX7_revert_43 : decode cX7_revert 43 = .ok (.iconst 2, 1) := by decide +kernel
theorem dX7_revert_44 : decode cX7_revert 44 = .ok (.iaload, 1) := by decide +kernel
theorem dX7_revert_45 : decode cX7_revert 45 = .ok (.putfield 107, 3) := by decide +kernel
theorem dX7_revert_48 : decode cX7_revert 48 = .ok (.aload_n 0, 1) := by decide +kernel
theorem dX7_revert_49 : decode cX7_revert 49 = .ok (.getfield 19, 3) := by decide +kernel
theorem dX7_revert_52 : decode cX7_revert 52 = .ok (.aload_n 0, 1) := by decide +kernel
theorem dX7_revert_53 : decode cX7_revert 53 = .ok (.getfield 9, 3) := by decide +kernel
theorem dX7_revert_56 : decode cX7_revert 56 = .ok (.iconst 3, 1) := by decide +kernel
theorem dX7_revert_57 : decode cX7_revert 57 = .ok (.iaload, 1) := by decide +kernel
theorem dX7_revert_58 : decode cX7_revert 58 = .ok (.putfield 116, 3) := by decide +kernel
theorem dX7_revert_61 : decode cX7_revert 61 = .ok (.aload_n 0, 1) := by decide +kernel
theorem dX7_revert_62 : decode cX7_revert 62 = .ok (.getfield 19, 3) := by decide +kernel
theorem dX7_revert_65 : decode cX7_revert 65 = .ok (.aload_n 0, 1) := by decide +kernel
theorem dX7_revert_66 : decode cX7_revert 66 = .ok (.getfield 9, 3) := by decide +kernel
theorem dX7_revert_69 : decode cX7_revert 69 = .ok (.iconst 4, 1) := by decide +kernel
theorem dX7_revert_70 : decode cX7_revert 70 = .ok (.iaload, 1) := by decide +kernel
theorem dX7_revert_71 : decode cX7_revert 71 = .ok (.putfield 119, 3) := by decide +kernel
theorem dX7_revert_74 : decode cX7_revert 74 = .ok (.aload_n 0, 1) := by decide +kernel
theorem dX7_revert_75 : decode cX7_revert 75 = .ok (.getfield 19, 3) := by decide +kernel
theorem dX7_revert_78 : decode cX7_revert 78 = .ok (.aload_n 0, 1) := by decide +kernel
theorem dX7_revert_79 : decode cX7_revert 79 = .ok (.getfield 9, 3) := by decide +kernel
theorem dX7_revert_82 : decode cX7_revert 82 = .ok (.iconst 5, 1) := by decide +kernel
theorem dX7_revert_83 : decode cX7_revert 83 = .ok (.iaload, 1) := by decide +kernel
theorem dX7_revert_84 : decode cX7_revert 84 = .ok (.putfield 122, 3) := by decide +kernel
theorem dX7_revert_87 : decode cX7_revert 87 = .ok (.return_, 1) := by decide +kernel
abbrev rm_f_X7_revert : Room := { frames := 0, cells := 0, slots := 0, locals := 0 }
def f_X7_revert (N : Nat) (t : St) : Option (St) :=
    ixI 0 6 (lt1 (t.1 365 (0 : Int).toNat) fun v1 =>
    lt1 (pI t (312 + 0) 2 v1) fun t2 =>
    ixI 1 6 (lt1 (t2.1 365 (1 : Int).toNat) fun v3 =>
    lt1 (pI t2 (312 + 1) 2 v3) fun t4 =>
    ixI 2 6 (lt1 (t4.1 365 (2 : Int).toNat) fun v5 =>
    lt1 (pI t4 (312 + 2) 2 v5) fun t6 =>
    ixI 3 6 (lt1 (t6.1 365 (3 : Int).toNat) fun v7 =>
    lt1 (pI t6 302 16 v7) fun t8 =>
    ixI 4 6 (lt1 (t8.1 365 (4 : Int).toNat) fun v9 =>
    lt1 (pI t8 302 18 v9) fun t10 =>
    ixI 5 6 (lt1 (t10.1 365 (5 : Int).toNat) fun v11 =>
    lt1 (pI t10 302 19 v11) fun t12 =>
    some t12))))))
set_option maxHeartbeats 4000000 in
set_option maxRecDepth 100000 in
theorem b_f_X7_revert {p : Program} {l : Launch} {e : Env} {s : State} {m : MethodId} {args : Array Value} {below : List Frame} {meth : Method} {c : Code} {E : cE} {A : Nat → Prop} {r : Nat → Nat} {mc ms : Nat} {z : St} {N : Nat} {t : St} (X : gX p s m meth c cX7_revert 1 none yX7_revert args E A) (h : f_X7_revert N t = some z) : gP p l e rm_f_X7_revert s m args below meth c E A 1 (MQ below ((gqV E (gW E r shH) z) A) args s mc ms A) (gW E r shH) 0 [(0, .ref (r 303))] [] t := by
  unfold f_X7_revert at h
  refine g_aload_n X dX7_revert_0 0 rfl ?_
  refine g_getR X fH_X7_19_303 rfl dX7_revert_1 ?_
  refine g_getR X fH_X7_103_302 rfl dX7_revert_4 ?_
  refine g_aload_n X dX7_revert_7 0 rfl ?_
  refine g_getR X fH_X7_9_303 rfl dX7_revert_8 ?_
  refine g_iconst X dX7_revert_11 ?_
  refine g_iald X aH_365 dX7_revert_12 h (fun v1 h => ?_)
  refine g_putI X (fH_X7_107_ow (o := 0) (by decide)) rfl dX7_revert_13 h (fun t2 h => ?_)
  refine g_aload_n X dX7_revert_16 0 rfl ?_
  refine g_getR X fH_X7_19_303 rfl dX7_revert_17 ?_
  refine g_getR X fH_X7_110_302 rfl dX7_revert_20 ?_
  refine g_aload_n X dX7_revert_23 0 rfl ?_
  refine g_getR X fH_X7_9_303 rfl dX7_revert_24 ?_
  refine g_iconst X dX7_revert_27 ?_
  refine g_iald X aH_365 dX7_revert_28 h (fun v3 h => ?_)
  refine g_putI X (fH_X7_107_ow (o := 1) (by decide)) rfl dX7_revert_29 h (fun t4 h => ?_)
  refine g_aload_n X dX7_revert_32 0 rfl ?_
  refine g_getR X fH_X7_19_303 rfl dX7_revert_33 ?_
  refine g_getR X fH_X7_113_302 rfl dX7_revert_36 ?_
  refine g_aload_n X dX7_revert_39 0 rfl ?_
  refine g_getR X fH_X7_9_303 rfl dX7_revert_40 ?_
  refine g_iconst X dX7_revert_43 ?_
  refine g_iald X aH_365 dX7_revert_44 h (fun v5 h => ?_)
  refine g_putI X (fH_X7_107_ow (o := 2) (by decide)) rfl dX7_revert_45 h (fun t6 h => ?_)
  refine g_aload_n X dX7_revert_48 0 rfl ?_
  refine g_getR X fH_X7_19_303 rfl dX7_revert_49 ?_
  refine g_aload_n X dX7_revert_52 0 rfl ?_
  refine g_getR X fH_X7_9_303 rfl dX7_revert_53 ?_
  refine g_iconst X dX7_revert_56 ?_
  refine g_iald X aH_365 dX7_revert_57 h (fun v7 h => ?_)
  refine g_putI X fH_X7_116_302w rfl dX7_revert_58 h (fun t8 h => ?_)
  refine g_aload_n X dX7_revert_61 0 rfl ?_
  refine g_getR X fH_X7_19_303 rfl dX7_revert_62 ?_
  refine g_aload_n X dX7_revert_65 0 rfl ?_
  refine g_getR X fH_X7_9_303 rfl dX7_revert_66 ?_
  refine g_iconst X dX7_revert_69 ?_
  refine g_iald X aH_365 dX7_revert_70 h (fun v9 h => ?_)
  refine g_putI X fH_X7_119_302w rfl dX7_revert_71 h (fun t10 h => ?_)
  refine g_aload_n X dX7_revert_74 0 rfl ?_
  refine g_getR X fH_X7_19_303 rfl dX7_revert_75 ?_
  refine g_aload_n X dX7_revert_78 0 rfl ?_
  refine g_getR X fH_X7_9_303 rfl dX7_revert_79 ?_
  refine g_iconst X dX7_revert_82 ?_
  refine g_iald X aH_365 dX7_revert_83 h (fun v11 h => ?_)
  refine g_putI X fH_X7_122_302w rfl dX7_revert_84 h (fun t12 h => ?_)
  exact g_vret X h dX7_revert_87
set_option maxHeartbeats 4000000 in
set_option maxRecDepth 100000 in
theorem cp_X7_revert (l : Launch) (E : cE) (r : Nat → Nat) (N : Nat) (t : St) (z : St) (h : f_X7_revert N t = some z) : cM l E yX7_revert cX7_revert 1 none rm_f_X7_revert [.ref (r 303)] (gW E r shH t) (gqV E (gW E r shH) z) := by
  refine g_of (w := gW E r shH) (by decide) (Nat.le_of_ble_eq_true rfl) ?_
  intro p e s m below meth c A X
  exact g_sub (lv' := [(0, .ref (r 303))]) [0] rfl (b_f_X7_revert X h)
theorem yy_X7_revert : cY yX7_revert cX7_revert 1 none 0 := ⟨wdK_X7_revert, wdZ_RX7, by decide +kernel⟩
theorem yi_X7_revert : cYi yX7_revert := ⟨wdN_X7_revert, wdS_X7_revert⟩
theorem dX7_readBook_0 : decode cX7_readBook 0 = .ok (.aload_n 0, 1) := by decide +kernel
theorem dX7_readBook_1 : decode cX7_readBook 1 = .ok (.invokevirtual 23, 3) := by decide +kernel
theorem dX7_readBook_4 : decode cX7_readBook 4 = .ok (.aload_n 0, 1) := by decide +kernel
theorem dX7_readBook_5 : decode cX7_readBook 5 = .ok (.invokevirtual 26, 3) := by decide +kernel
theorem dX7_readBook_8 : decode cX7_readBook 8 = .ok (.iconst 1, 1) := by decide +kernel
theorem dX7_readBook_9 : decode cX7_readBook 9 = .ok (.istore_n 1, 1) := by decide +kernel
theorem dX7_readBook_10 : decode cX7_readBook 10 = .ok (.iconst 0, 1) := by decide +kernel
theorem dX7_readBook_11 : decode cX7_readBook 11 = .ok (.istore_n 2, 1) := by decide +kernel
theorem dX7_readBook_12 : decode cX7_readBook 12 = .ok (.iload_n 2, 1) := by decide +kernel
theorem dX7_readBook_13 : decode cX7_readBook 13 = .ok (.sipush 4096, 3) := by decide +kernel
theorem dX7_readBook_16 : decode cX7_readBook 16 = .ok (.if_icmp .ge 96, 3) := by decide +kernel
theorem dX7_readBook_19 : decode cX7_readBook 19 = .ok (.iload_n 1, 1) := by decide +kernel
theorem dX7_readBook_20 : decode cX7_readBook 20 = .ok (.ifCond .eq 92, 3) := by decide +kernel
theorem dX7_readBook_23 : decode cX7_readBook 23 = .ok (.aload_n 0, 1) := by decide +kernel
theorem dX7_readBook_24 : decode cX7_readBook 24 = .ok (.getfield 29, 3) := by decide +kernel
theorem dX7_readBook_27 : decode cX7_readBook 27 = .ok (.bipush 48, 2) := by decide +kernel
theorem dX7_readBook_29 : decode cX7_readBook 29 = .ok (.if_icmp .eq 83, 3) := by decide +kernel
theorem dX7_readBook_32 : decode cX7_readBook 32 = .ok (.aload_n 0, 1) := by decide +kernel
theorem dX7_readBook_33 : decode cX7_readBook 33 = .ok (.getfield 29, 3) := by decide +kernel
theorem dX7_readBook_36 : decode cX7_readBook 36 = .ok (.tableswitch 64 0 3 #[32, 40, 48, 56], 32) := by decide +kernel
theorem dX7_readBook_68 : decode cX7_readBook 68 = .ok (.aload_n 0, 1) := by decide +kernel
theorem dX7_readBook_69 : decode cX7_readBook 69 = .ok (.invokevirtual 35, 3) := by decide +kernel
theorem dX7_readBook_72 : decode cX7_readBook 72 = .ok (.istore_n 1, 1) := by decide +kernel
theorem dX7_readBook_73 : decode cX7_readBook 73 = .ok (.goto 33, 3) := by decide +kernel
theorem dX7_readBook_76 : decode cX7_readBook 76 = .ok (.aload_n 0, 1) := by decide +kernel
theorem dX7_readBook_77 : decode cX7_readBook 77 = .ok (.invokevirtual 39, 3) := by decide +kernel
theorem dX7_readBook_80 : decode cX7_readBook 80 = .ok (.istore_n 1, 1) := by decide +kernel
theorem dX7_readBook_81 : decode cX7_readBook 81 = .ok (.goto 25, 3) := by decide +kernel
theorem dX7_readBook_84 : decode cX7_readBook 84 = .ok (.aload_n 0, 1) := by decide +kernel
theorem dX7_readBook_85 : decode cX7_readBook 85 = .ok (.invokevirtual 42, 3) := by decide +kernel
theorem dX7_readBook_88 : decode cX7_readBook 88 = .ok (.istore_n 1, 1) := by decide +kernel
theorem dX7_readBook_89 : decode cX7_readBook 89 = .ok (.goto 17, 3) := by decide +kernel
theorem dX7_readBook_92 : decode cX7_readBook 92 = .ok (.aload_n 0, 1) := by decide +kernel
theorem dX7_readBook_93 : decode cX7_readBook 93 = .ok (.invokevirtual 45, 3) := by decide +kernel
theorem dX7_readBook_96 : decode cX7_readBook 96 = .ok (.istore_n 1, 1) := by decide +kernel
theorem dX7_readBook_97 : decode cX7_readBook 97 = .ok (.goto 9, 3) := by decide +kernel
theorem dX7_readBook_100 : decode cX7_readBook 100 = .ok (.aload_n 0, 1) := by decide +kernel
theorem dX7_readBook_101 : decode cX7_readBook 101 = .ok (.iconst 1, 1) := by decide +kernel
theorem dX7_readBook_102 : decode cX7_readBook 102 = .ok (.invokevirtual 48, 3) := by decide +kernel
theorem dX7_readBook_105 : decode cX7_readBook 105 = .ok (.istore_n 1, 1) := by decide +kernel
theorem dX7_readBook_106 : decode cX7_readBook 106 = .ok (.iinc 2 1, 3) := by decide +kernel
theorem dX7_readBook_109 : decode cX7_readBook 109 = .ok (.goto (-97), 3) := by decide +kernel
theorem dX7_readBook_112 : decode cX7_readBook 112 = .ok (.iload_n 1, 1) := by decide +kernel
theorem dX7_readBook_113 : decode cX7_readBook 113 = .ok (.ifCond .ne 7, 3) := by decide +kernel
theorem dX7_readBook_116 : decode cX7_readBook 116 = .ok (.aload_n 0, 1) := by decide +kernel
theorem dX7_readBook_117 : decode cX7_readBook 117 = .ok (.invokevirtual 52, 3) := by decide +kernel
theorem dX7_readBook_120 : decode cX7_readBook 120 = .ok (.return_, 1) := by decide +kernel
abbrev rm_f_X7_readBook : Room := { frames := 406, cells := 0, slots := 0, locals := 24131 }
def f_X7_readBook_L12 (N : Nat) (K6 : (Int → St → Option (St))) : Nat → Int → Int → St → Option (St)
  | 0, _, _, _ => none
  | n9 + 1, x3, x4, t5 =>
    cmpI x4 4096 (if x4 < 4096 then (cmpI x3 0 (if x3 = 0 then (K6 x3 t5)
    else (lt1 (t5.1 303 3) fun v7 =>
    cmpI v7 48 (if v7 = 48 then (K6 x3 t5)
    else (lt1 (t5.1 303 3) fun v8 =>
    jn1 (fun (j9 : Int) (t10 : St) => f_X7_readBook_L12 N K6 n9 j9 (x4 + 1) t10) fun J11 =>
    rnI v8 (if v8 = 0 then (bdI (f_X7_readForm N t5) fun v13 t12 =>
    J11 v13 t12)
    else (if v8 = 1 then (bdI (f_X7_readFigure N t5) fun v15 t14 =>
    J11 v15 t14)
    else (if v8 = 2 then (bdI (f_X7_readPart N t5) fun v17 t16 =>
    J11 v17 t16)
    else (if v8 = 3 then (bdI (f_X7_readAllow N t5) fun v19 t18 =>
    J11 v19 t18)
    else (bdI (f_X7_wrong N 1 t5) fun v21 t20 =>
    J11 v21 t20))))))))))
    else (K6 x3 t5))
def f_X7_readBook (N : Nat) (t : St) : Option (St) :=
    bdV (f_X7_save N t) fun t1 =>
    bdV (f_X7_startText N t1) fun t2 =>
    f_X7_readBook_L12 N (fun (k22 : Int) (t23 : St) => cmpI k22 0 (if k22 = 0 then (bdV (f_X7_revert N t23) fun t24 =>
    some t24)
    else (some t23))) N 1 0 t2
set_option maxHeartbeats 4000000 in
set_option maxRecDepth 100000 in
theorem t_f_X7_readBook_L12 {p : Program} {l : Launch} {e : Env} {s : State} {m : MethodId} {args : Array Value} {below : List Frame} {meth : Method} {c : Code} {E : cE} {A : Nat → Prop} {r : Nat → Nat} {mc ms : Nat} {z : St} {N : Nat} {K6 : (Int → St → Option (St))} (X : gX p s m meth c cX7_readBook 3 none yX7_readBook args E A) (hK6 : ∀ (q1 : Int) (t9 : St), K6 q1 t9 = some z → gP p l e rm_f_X7_readBook s m args below meth c E A 3 (MQ below ((gqV E (gW E r shH) z) A) args s mc ms A) (gW E r shH) 112 [(0, .ref (r 303)), (1, iv q1)] [] t9) : ∀ (n9 : Nat) (x3 : Int) (x4 : Int) (t5 : St), f_X7_readBook_L12 N K6 n9 x3 x4 t5 = some z → gP p l e rm_f_X7_readBook s m args below meth c E A 3 (MQ below ((gqV E (gW E r shH) z) A) args s mc ms A) (gW E r shH) 12 [(0, .ref (r 303)), (1, iv x3), (2, iv x4)] [] t5 := by
  intro n9
  induction n9 with
  | zero => intro x3 x4 t5 h; cases h
  | succ n9 ih =>
    intro x3 x4 t5 h
    unfold f_X7_readBook_L12 at h
    refine g_iload_n X dX7_readBook_12 2 rfl ?_
    refine g_sipush X dX7_readBook_13 (by decide) ?_
    refine g_icmp_ge (tgt := 112) X dX7_readBook_16 (by decide) h (fun h => ?_) (fun h => ?_)
    · exact g_sub (lv' := [(0, .ref (r 303)), (1, iv x3)]) [0, 1] rfl (hK6 x3 t5 h)
    · refine g_iload_n X dX7_readBook_19 1 rfl ?_
      refine g_if_eq (tgt := 112) X dX7_readBook_20 (by decide) h (fun h => ?_) (fun h => ?_)
      · exact g_sub (lv' := [(0, .ref (r 303)), (1, iv x3)]) [0, 1] rfl (hK6 x3 t5 h)
      · refine g_aload_n X dX7_readBook_23 0 rfl ?_
        refine g_getI X fH_X7_29_303 rfl dX7_readBook_24 h (fun v7 h => ?_)
        refine g_bipush X dX7_readBook_27 (by decide) ?_
        refine g_icmp_eq (tgt := 112) X dX7_readBook_29 (by decide) h (fun h => ?_) (fun h => ?_)
        · exact g_sub (lv' := [(0, .ref (r 303)), (1, iv x3)]) [0, 1] rfl (hK6 x3 t5 h)
        · refine g_aload_n X dX7_readBook_32 0 rfl ?_
          refine g_getI X fH_X7_29_303 rfl dX7_readBook_33 h (fun v8 h => ?_)
          refine g_join (J := fun jj => ∀ (j9 : Int) (t10 : St), jj j9 t10 = some z → gP p l e rm_f_X7_readBook s m args below meth c E A 3 (MQ below ((gqV E (gW E r shH) z) A) args s mc ms A) (gW E r shH) 106 [(0, .ref (r 303)), (1, iv j9), (2, iv x4)] [] t10) h (fun j9 t10 h => ?_) (fun J11 hJ11 h => ?_)
          · refine g_iinc (lv' := [(2, iv (x4 + 1)), (0, .ref (r 303)), (1, iv j9)]) X dX7_readBook_106 (k := 2) rfl (by decide) rfl ?_
            refine g_goto (tgt := 12) X dX7_readBook_109 (by decide) ?_
            exact g_sub (lv' := [(0, .ref (r 303)), (1, iv j9), (2, iv (x4 + 1))]) [1, 2, 0] rfl (ih j9 (x4 + 1) t10 h)
          obtain ⟨hr9, h⟩ := rnI_some h
          by_cases e9_0 : v8 = 0
          · rw [if_pos e9_0] at h
            refine g_tableIn X (tgt := 68) (off := 32) dX7_readBook_36 (k := 0) hr9 e9_0 (by decide) (by decide) rfl (by decide) ?_
            refine g_aload_n X dX7_readBook_68 0 rfl ?_
            refine g_callOI (rest := []) X (fun u9 h9 => cp_X7_readForm l E r N t5 u9 h9) yy_X7_readForm yi_X7_readForm wdM_RX7_35 ⟨_, _, oH_303⟩ rfl rfl rfl (Nat.le_of_ble_eq_true rfl) dX7_readBook_69 ⟨by decide, by decide⟩ ⟨rfl, rfl⟩ h (fun v13 t12 h => ?_)
            refine g_istore_n (lv' := [(1, iv v13), (0, .ref (r 303)), (2, iv x4)]) X dX7_readBook_72 rfl (by decide) rfl ?_
            refine g_goto (tgt := 106) X dX7_readBook_73 (by decide) ?_
            exact g_sub (lv' := [(0, .ref (r 303)), (1, iv v13), (2, iv x4)]) [1, 0, 2] rfl (hJ11 v13 t12 h)
          · rw [if_neg e9_0] at h
            by_cases e9_1 : v8 = 1
            · rw [if_pos e9_1] at h
              refine g_tableIn X (tgt := 76) (off := 40) dX7_readBook_36 (k := 1) hr9 e9_1 (by decide) (by decide) rfl (by decide) ?_
              refine g_aload_n X dX7_readBook_76 0 rfl ?_
              refine g_callOI (rest := []) X (fun u9 h9 => cp_X7_readFigure l E r N t5 u9 h9) yy_X7_readFigure yi_X7_readFigure wdM_RX7_39 ⟨_, _, oH_303⟩ rfl rfl rfl (Nat.le_of_ble_eq_true rfl) dX7_readBook_77 ⟨by decide, by decide⟩ ⟨rfl, rfl⟩ h (fun v15 t14 h => ?_)
              refine g_istore_n (lv' := [(1, iv v15), (0, .ref (r 303)), (2, iv x4)]) X dX7_readBook_80 rfl (by decide) rfl ?_
              refine g_goto (tgt := 106) X dX7_readBook_81 (by decide) ?_
              exact g_sub (lv' := [(0, .ref (r 303)), (1, iv v15), (2, iv x4)]) [1, 0, 2] rfl (hJ11 v15 t14 h)
            · rw [if_neg e9_1] at h
              by_cases e9_2 : v8 = 2
              · rw [if_pos e9_2] at h
                refine g_tableIn X (tgt := 84) (off := 48) dX7_readBook_36 (k := 2) hr9 e9_2 (by decide) (by decide) rfl (by decide) ?_
                refine g_aload_n X dX7_readBook_84 0 rfl ?_
                refine g_callOI (rest := []) X (fun u9 h9 => cp_X7_readPart l E r N t5 u9 h9) yy_X7_readPart yi_X7_readPart wdM_RX7_42 ⟨_, _, oH_303⟩ rfl rfl rfl (Nat.le_of_ble_eq_true rfl) dX7_readBook_85 ⟨by decide, by decide⟩ ⟨rfl, rfl⟩ h (fun v17 t16 h => ?_)
                refine g_istore_n (lv' := [(1, iv v17), (0, .ref (r 303)), (2, iv x4)]) X dX7_readBook_88 rfl (by decide) rfl ?_
                refine g_goto (tgt := 106) X dX7_readBook_89 (by decide) ?_
                exact g_sub (lv' := [(0, .ref (r 303)), (1, iv v17), (2, iv x4)]) [1, 0, 2] rfl (hJ11 v17 t16 h)
              · rw [if_neg e9_2] at h
                by_cases e9_3 : v8 = 3
                · rw [if_pos e9_3] at h
                  refine g_tableIn X (tgt := 92) (off := 56) dX7_readBook_36 (k := 3) hr9 e9_3 (by decide) (by decide) rfl (by decide) ?_
                  refine g_aload_n X dX7_readBook_92 0 rfl ?_
                  refine g_callOI (rest := []) X (fun u9 h9 => cp_X7_readAllow l E r N t5 u9 h9) yy_X7_readAllow yi_X7_readAllow wdM_RX7_45 ⟨_, _, oH_303⟩ rfl rfl rfl (Nat.le_of_ble_eq_true rfl) dX7_readBook_93 ⟨by decide, by decide⟩ ⟨rfl, rfl⟩ h (fun v19 t18 h => ?_)
                  refine g_istore_n (lv' := [(1, iv v19), (0, .ref (r 303)), (2, iv x4)]) X dX7_readBook_96 rfl (by decide) rfl ?_
                  refine g_goto (tgt := 106) X dX7_readBook_97 (by decide) ?_
                  exact g_sub (lv' := [(0, .ref (r 303)), (1, iv v19), (2, iv x4)]) [1, 0, 2] rfl (hJ11 v19 t18 h)
                · rw [if_neg e9_3] at h
                  refine g_tableOut X (tgt := 100) dX7_readBook_36 hr9 (by omega) (by decide) ?_
                  refine g_aload_n X dX7_readBook_100 0 rfl ?_
                  refine g_iconst X dX7_readBook_101 ?_
                  refine g_callOI (rest := []) X (fun u9 h9 => cp_X7_wrong l E r N 1 t5 u9 h9) yy_X7_wrong yi_X7_wrong wdM_RX7_48 ⟨_, _, oH_303⟩ rfl rfl rfl (Nat.le_of_ble_eq_true rfl) dX7_readBook_102 ⟨by decide, by decide⟩ ⟨rfl, rfl⟩ h (fun v21 t20 h => ?_)
                  refine g_istore_n (lv' := [(1, iv v21), (0, .ref (r 303)), (2, iv x4)]) X dX7_readBook_105 rfl (by decide) rfl ?_
                  exact g_sub (lv' := [(0, .ref (r 303)), (1, iv v21), (2, iv x4)]) [1, 0, 2] rfl (hJ11 v21 t20 h)
set_option maxHeartbeats 4000000 in
set_option maxRecDepth 100000 in
theorem b_f_X7_readBook {p : Program} {l : Launch} {e : Env} {s : State} {m : MethodId} {args : Array Value} {below : List Frame} {meth : Method} {c : Code} {E : cE} {A : Nat → Prop} {r : Nat → Nat} {mc ms : Nat} {z : St} {N : Nat} {t : St} (X : gX p s m meth c cX7_readBook 3 none yX7_readBook args E A) (h : f_X7_readBook N t = some z) : gP p l e rm_f_X7_readBook s m args below meth c E A 3 (MQ below ((gqV E (gW E r shH) z) A) args s mc ms A) (gW E r shH) 0 [(0, .ref (r 303))] [] t := by
  unfold f_X7_readBook at h
  refine g_aload_n X dX7_readBook_0 0 rfl ?_
  refine g_callOV (rest := []) X (fun u9 h9 => cp_X7_save l E r N t u9 h9) yy_X7_save yi_X7_save wdM_RX7_23 ⟨_, _, oH_303⟩ rfl rfl rfl (Nat.le_of_ble_eq_true rfl) dX7_readBook_1 ⟨by decide, by decide⟩ ⟨rfl, rfl⟩ h (fun t1 h => ?_)
  refine g_aload_n X dX7_readBook_4 0 rfl ?_
  refine g_callOV (rest := []) X (fun u9 h9 => cp_X7_startText l E r N t1 u9 h9) yy_X7_startText yi_X7_startText wdM_RX7_26 ⟨_, _, oH_303⟩ rfl rfl rfl (Nat.le_of_ble_eq_true rfl) dX7_readBook_5 ⟨by decide, by decide⟩ ⟨rfl, rfl⟩ h (fun t2 h => ?_)
  refine g_iconst X dX7_readBook_8 ?_
  refine g_istore_n (lv' := [(1, iv 1), (0, .ref (r 303))]) X dX7_readBook_9 rfl (by decide) rfl ?_
  refine g_iconst X dX7_readBook_10 ?_
  refine g_istore_n (lv' := [(2, iv 0), (1, iv 1), (0, .ref (r 303))]) X dX7_readBook_11 rfl (by decide) rfl ?_
  refine g_sub (lv' := [(0, .ref (r 303)), (1, iv 1), (2, iv 0)]) [2, 1, 0] rfl (t_f_X7_readBook_L12 X (fun k22 t23 h => ?_) N 1 0 t2 h)
  · refine g_iload_n X dX7_readBook_112 1 rfl ?_
    refine g_if_ne (tgt := 120) X dX7_readBook_113 (by decide) h (fun h => ?_) (fun h => ?_)
    · exact g_vret X h dX7_readBook_120
    · refine g_aload_n X dX7_readBook_116 0 rfl ?_
      refine g_callOV (rest := []) X (fun u9 h9 => cp_X7_revert l E r N t23 u9 h9) yy_X7_revert yi_X7_revert wdM_RX7_52 ⟨_, _, oH_303⟩ rfl rfl rfl (Nat.le_of_ble_eq_true rfl) dX7_readBook_117 ⟨by decide, by decide⟩ ⟨rfl, rfl⟩ h (fun t24 h => ?_)
      exact g_vret X h dX7_readBook_120
set_option maxHeartbeats 4000000 in
set_option maxRecDepth 100000 in
theorem cp_X7_readBook (l : Launch) (E : cE) (r : Nat → Nat) (N : Nat) (t : St) (z : St) (h : f_X7_readBook N t = some z) : cM l E yX7_readBook cX7_readBook 3 none rm_f_X7_readBook [.ref (r 303)] (gW E r shH t) (gqV E (gW E r shH) z) := by
  refine g_of (w := gW E r shH) (by decide) (Nat.le_of_ble_eq_true rfl) ?_
  intro p e s m below meth c A X
  exact g_sub (lv' := [(0, .ref (r 303))]) [0] rfl (b_f_X7_readBook X h)
theorem yy_X7_readBook : cY yX7_readBook cX7_readBook 3 none 0 := ⟨wdK_X7_readBook, wdZ_RX7, by decide +kernel⟩
theorem yi_X7_readBook : cYi yX7_readBook := ⟨wdN_X7_readBook, wdS_X7_readBook⟩
theorem dX7_readCall_0 : decode cX7_readCall 0 = .ok (.aload_n 0, 1) := by decide +kernel
theorem dX7_readCall_1 : decode cX7_readCall 1 = .ok (.invokevirtual 26, 3) := by decide +kernel
theorem dX7_readCall_4 : decode cX7_readCall 4 = .ok (.aload_n 0, 1) := by decide +kernel
theorem dX7_readCall_5 : decode cX7_readCall 5 = .ok (.invokevirtual 55, 3) := by decide +kernel
theorem dX7_readCall_8 : decode cX7_readCall 8 = .ok (.ifCond .eq 18, 3) := by decide +kernel
theorem dX7_readCall_11 : decode cX7_readCall 11 = .ok (.aload_n 0, 1) := by decide +kernel
theorem dX7_readCall_12 : decode cX7_readCall 12 = .ok (.getfield 29, 3) := by decide +kernel
theorem dX7_readCall_15 : decode cX7_readCall 15 = .ok (.bipush 48, 2) := by decide +kernel
theorem dX7_readCall_17 : decode cX7_readCall 17 = .ok (.if_icmp .eq 9, 3) := by decide +kernel
theorem dX7_readCall_20 : decode cX7_readCall 20 = .ok (.aload_n 0, 1) := by decide +kernel
theorem dX7_readCall_21 : decode cX7_readCall 21 = .ok (.iconst 1, 1) := by decide +kernel
theorem dX7_readCall_22 : decode cX7_readCall 22 = .ok (.invokevirtual 48, 3) := by decide +kernel
theorem dX7_readCall_25 : decode cX7_readCall 25 = .ok (.pop, 1) := by decide +kernel
theorem dX7_readCall_26 : decode cX7_readCall 26 = .ok (.return_, 1) := by decide +kernel
abbrev rm_f_X7_readCall : Room := { frames := 204, cells := 0, slots := 0, locals := 12088 }
def f_X7_readCall (N : Nat) (t : St) : Option (St) :=
    bdV (f_X7_startText N t) fun t1 =>
    bdI (f_X7_readStep N t1) fun v3 t2 =>
    cmpI v3 0 (if v3 = 0 then (some t2)
    else (lt1 (t2.1 303 3) fun v4 =>
    cmpI v4 48 (if v4 = 48 then (some t2)
    else (bdI (f_X7_wrong N 1 t2) fun v6 t5 =>
    some t5))))
set_option maxHeartbeats 4000000 in
set_option maxRecDepth 100000 in
theorem b_f_X7_readCall {p : Program} {l : Launch} {e : Env} {s : State} {m : MethodId} {args : Array Value} {below : List Frame} {meth : Method} {c : Code} {E : cE} {A : Nat → Prop} {r : Nat → Nat} {mc ms : Nat} {z : St} {N : Nat} {t : St} (X : gX p s m meth c cX7_readCall 1 none yX7_readCall args E A) (h : f_X7_readCall N t = some z) : gP p l e rm_f_X7_readCall s m args below meth c E A 1 (MQ below ((gqV E (gW E r shH) z) A) args s mc ms A) (gW E r shH) 0 [(0, .ref (r 303))] [] t := by
  unfold f_X7_readCall at h
  refine g_aload_n X dX7_readCall_0 0 rfl ?_
  refine g_callOV (rest := []) X (fun u9 h9 => cp_X7_startText l E r N t u9 h9) yy_X7_startText yi_X7_startText wdM_RX7_26 ⟨_, _, oH_303⟩ rfl rfl rfl (Nat.le_of_ble_eq_true rfl) dX7_readCall_1 ⟨by decide, by decide⟩ ⟨rfl, rfl⟩ h (fun t1 h => ?_)
  refine g_aload_n X dX7_readCall_4 0 rfl ?_
  refine g_callOI (rest := []) X (fun u9 h9 => cp_X7_readStep l E r N t1 u9 h9) yy_X7_readStep yi_X7_readStep wdM_RX7_55 ⟨_, _, oH_303⟩ rfl rfl rfl (Nat.le_of_ble_eq_true rfl) dX7_readCall_5 ⟨by decide, by decide⟩ ⟨rfl, rfl⟩ h (fun v3 t2 h => ?_)
  refine g_if_eq (tgt := 26) X dX7_readCall_8 (by decide) h (fun h => ?_) (fun h => ?_)
  · exact g_vret X h dX7_readCall_26
  · refine g_aload_n X dX7_readCall_11 0 rfl ?_
    refine g_getI X fH_X7_29_303 rfl dX7_readCall_12 h (fun v4 h => ?_)
    refine g_bipush X dX7_readCall_15 (by decide) ?_
    refine g_icmp_eq (tgt := 26) X dX7_readCall_17 (by decide) h (fun h => ?_) (fun h => ?_)
    · exact g_vret X h dX7_readCall_26
    · refine g_aload_n X dX7_readCall_20 0 rfl ?_
      refine g_iconst X dX7_readCall_21 ?_
      refine g_callOI (rest := []) X (fun u9 h9 => cp_X7_wrong l E r N 1 t2 u9 h9) yy_X7_wrong yi_X7_wrong wdM_RX7_48 ⟨_, _, oH_303⟩ rfl rfl rfl (Nat.le_of_ble_eq_true rfl) dX7_readCall_22 ⟨by decide, by decide⟩ ⟨rfl, rfl⟩ h (fun v6 t5 h => ?_)
      refine g_pop X rfl dX7_readCall_25 ?_
      exact g_vret X h dX7_readCall_26
set_option maxHeartbeats 4000000 in
set_option maxRecDepth 100000 in
theorem cp_X7_readCall (l : Launch) (E : cE) (r : Nat → Nat) (N : Nat) (t : St) (z : St) (h : f_X7_readCall N t = some z) : cM l E yX7_readCall cX7_readCall 1 none rm_f_X7_readCall [.ref (r 303)] (gW E r shH t) (gqV E (gW E r shH) z) := by
  refine g_of (w := gW E r shH) (by decide) (Nat.le_of_ble_eq_true rfl) ?_
  intro p e s m below meth c A X
  exact g_sub (lv' := [(0, .ref (r 303))]) [0] rfl (b_f_X7_readCall X h)
theorem yy_X7_readCall : cY yX7_readCall cX7_readCall 1 none 0 := ⟨wdK_X7_readCall, wdZ_RX7, by decide +kernel⟩
theorem yi_X7_readCall : cYi yX7_readCall := ⟨wdN_X7_readCall, wdS_X7_readCall⟩
theorem dX7_readName_0 : decode cX7_readName 0 = .ok (.aload_n 0, 1) := by decide +kernel
theorem dX7_readName_1 : decode cX7_readName 1 = .ok (.invokevirtual 26, 3) := by decide +kernel
theorem dX7_readName_4 : decode cX7_readName 4 = .ok (.aload_n 0, 1) := by decide +kernel
theorem dX7_readName_5 : decode cX7_readName 5 = .ok (.bipush 38, 2) := by decide +kernel
theorem dX7_readName_7 : decode cX7_readName 7 = .ok (.invokevirtual 58, 3) := by decide +kernel
theorem dX7_readName_10 : decode cX7_readName 10 = .ok (.ifCond .eq 18, 3) := by decide +kernel
theorem dX7_readName_13 : decode cX7_readName 13 = .ok (.aload_n 0, 1) := by decide +kernel
theorem dX7_readName_14 : decode cX7_readName 14 = .ok (.getfield 29, 3) := by decide +kernel
theorem dX7_readName_17 : decode cX7_readName 17 = .ok (.bipush 48, 2) := by decide +kernel
theorem dX7_readName_19 : decode cX7_readName 19 = .ok (.if_icmp .eq 9, 3) := by decide +kernel
theorem dX7_readName_22 : decode cX7_readName 22 = .ok (.aload_n 0, 1) := by decide +kernel
theorem dX7_readName_23 : decode cX7_readName 23 = .ok (.iconst 1, 1) := by decide +kernel
theorem dX7_readName_24 : decode cX7_readName 24 = .ok (.invokevirtual 48, 3) := by decide +kernel
theorem dX7_readName_27 : decode cX7_readName 27 = .ok (.pop, 1) := by decide +kernel
theorem dX7_readName_28 : decode cX7_readName 28 = .ok (.return_, 1) := by decide +kernel
abbrev rm_f_X7_readName : Room := { frames := 2, cells := 0, slots := 0, locals := 42 }
def f_X7_readName (N : Nat) (t : St) : Option (St) :=
    bdV (f_X7_startText N t) fun t1 =>
    bdI (f_X7_take N 38 t1) fun v3 t2 =>
    cmpI v3 0 (if v3 = 0 then (some t2)
    else (lt1 (t2.1 303 3) fun v4 =>
    cmpI v4 48 (if v4 = 48 then (some t2)
    else (bdI (f_X7_wrong N 1 t2) fun v6 t5 =>
    some t5))))
set_option maxHeartbeats 4000000 in
set_option maxRecDepth 100000 in
theorem b_f_X7_readName {p : Program} {l : Launch} {e : Env} {s : State} {m : MethodId} {args : Array Value} {below : List Frame} {meth : Method} {c : Code} {E : cE} {A : Nat → Prop} {r : Nat → Nat} {mc ms : Nat} {z : St} {N : Nat} {t : St} (X : gX p s m meth c cX7_readName 1 none yX7_readName args E A) (h : f_X7_readName N t = some z) : gP p l e rm_f_X7_readName s m args below meth c E A 1 (MQ below ((gqV E (gW E r shH) z) A) args s mc ms A) (gW E r shH) 0 [(0, .ref (r 303))] [] t := by
  unfold f_X7_readName at h
  refine g_aload_n X dX7_readName_0 0 rfl ?_
  refine g_callOV (rest := []) X (fun u9 h9 => cp_X7_startText l E r N t u9 h9) yy_X7_startText yi_X7_startText wdM_RX7_26 ⟨_, _, oH_303⟩ rfl rfl rfl (Nat.le_of_ble_eq_true rfl) dX7_readName_1 ⟨by decide, by decide⟩ ⟨rfl, rfl⟩ h (fun t1 h => ?_)
  refine g_aload_n X dX7_readName_4 0 rfl ?_
  refine g_bipush X dX7_readName_5 (by decide) ?_
  refine g_callOI (rest := []) X (fun u9 h9 => cp_X7_take l E r N 38 t1 u9 h9) yy_X7_take yi_X7_take wdM_RX7_58 ⟨_, _, oH_303⟩ rfl rfl rfl (Nat.le_of_ble_eq_true rfl) dX7_readName_7 ⟨by decide, by decide⟩ ⟨rfl, rfl⟩ h (fun v3 t2 h => ?_)
  refine g_if_eq (tgt := 28) X dX7_readName_10 (by decide) h (fun h => ?_) (fun h => ?_)
  · exact g_vret X h dX7_readName_28
  · refine g_aload_n X dX7_readName_13 0 rfl ?_
    refine g_getI X fH_X7_29_303 rfl dX7_readName_14 h (fun v4 h => ?_)
    refine g_bipush X dX7_readName_17 (by decide) ?_
    refine g_icmp_eq (tgt := 28) X dX7_readName_19 (by decide) h (fun h => ?_) (fun h => ?_)
    · exact g_vret X h dX7_readName_28
    · refine g_aload_n X dX7_readName_22 0 rfl ?_
      refine g_iconst X dX7_readName_23 ?_
      refine g_callOI (rest := []) X (fun u9 h9 => cp_X7_wrong l E r N 1 t2 u9 h9) yy_X7_wrong yi_X7_wrong wdM_RX7_48 ⟨_, _, oH_303⟩ rfl rfl rfl (Nat.le_of_ble_eq_true rfl) dX7_readName_24 ⟨by decide, by decide⟩ ⟨rfl, rfl⟩ h (fun v6 t5 h => ?_)
      refine g_pop X rfl dX7_readName_27 ?_
      exact g_vret X h dX7_readName_28
set_option maxHeartbeats 4000000 in
set_option maxRecDepth 100000 in
theorem cp_X7_readName (l : Launch) (E : cE) (r : Nat → Nat) (N : Nat) (t : St) (z : St) (h : f_X7_readName N t = some z) : cM l E yX7_readName cX7_readName 1 none rm_f_X7_readName [.ref (r 303)] (gW E r shH t) (gqV E (gW E r shH) z) := by
  refine g_of (w := gW E r shH) (by decide) (Nat.le_of_ble_eq_true rfl) ?_
  intro p e s m below meth c A X
  exact g_sub (lv' := [(0, .ref (r 303))]) [0] rfl (b_f_X7_readName X h)
theorem yy_X7_readName : cY yX7_readName cX7_readName 1 none 0 := ⟨wdK_X7_readName, wdZ_RX7, by decide +kernel⟩
theorem yi_X7_readName : cYi yX7_readName := ⟨wdN_X7_readName, wdS_X7_readName⟩
theorem dX7_numberOfName_0 : decode cX7_numberOfName 0 = .ok (.aload_n 0, 1) := by decide +kernel
theorem dX7_numberOfName_1 : decode cX7_numberOfName 1 = .ok (.getfield 19, 3) := by decide +kernel
theorem dX7_numberOfName_4 : decode cX7_numberOfName 4 = .ok (.iload_n 1, 1) := by decide +kernel
theorem dX7_numberOfName_5 : decode cX7_numberOfName 5 = .ok (.invokevirtual 61, 3) := by decide +kernel
theorem dX7_numberOfName_8 : decode cX7_numberOfName 8 = .ok (.aload_n 0, 1) := by decide +kernel
theorem dX7_numberOfName_9 : decode cX7_numberOfName 9 = .ok (.getfield 15, 3) := by decide +kernel
theorem dX7_numberOfName_12 : decode cX7_numberOfName 12 = .ok (.getfield 67, 3) := by decide +kernel
theorem dX7_numberOfName_15 : decode cX7_numberOfName 15 = .ok (.iconst 0, 1) := by decide +kernel
theorem dX7_numberOfName_16 : decode cX7_numberOfName 16 = .ok (.invokevirtual 71, 3) := by decide +kernel
theorem dX7_numberOfName_19 : decode cX7_numberOfName 19 = .ok (.ireturn, 1) := by decide +kernel
abbrev rm_f_X7_numberOfName : Room := { frames := 1, cells := 0, slots := 0, locals := 23 }
def f_X7_numberOfName (N : Nat) (a0 : Int) (t : St) : Option (Int × St) :=
    bdI (f_X0_namesOf N a0 t) fun v2 t1 =>
    bdI (f_X6_find N v2.toNat 335 12294 0 t1) fun v4 t3 =>
    some (v4, t3)
set_option maxHeartbeats 4000000 in
set_option maxRecDepth 100000 in
theorem b_f_X7_numberOfName {p : Program} {l : Launch} {e : Env} {s : State} {m : MethodId} {args : Array Value} {below : List Frame} {meth : Method} {c : Code} {E : cE} {A : Nat → Prop} {r : Nat → Nat} {mc ms : Nat} {z : Int × St} {N : Nat} {a0 : Int} {t : St} (X : gX p s m meth c cX7_numberOfName 2 (some .int) yX7_numberOfName args E A) (h : f_X7_numberOfName N a0 t = some z) : gP p l e rm_f_X7_numberOfName s m args below meth c E A 2 (MQ below ((gqI E (gW E r shH) z) A) args s mc ms A) (gW E r shH) 0 [(0, .ref (r 303)), (1, iv a0)] [] t := by
  unfold f_X7_numberOfName at h
  refine g_aload_n X dX7_numberOfName_0 0 rfl ?_
  refine g_getR X fH_X7_19_303 rfl dX7_numberOfName_1 ?_
  refine g_iload_n X dX7_numberOfName_4 1 rfl ?_
  refine g_callN (rest := []) X (fun u9 h9 => cp_X0_namesOf l E r N a0 t u9 h9) yy_X0_namesOf yi_X0_namesOf wdM_RX7_61 ⟨_, _, oH_302⟩ rfl rfl rfl (Nat.le_of_ble_eq_true rfl) dX7_numberOfName_5 ⟨by decide, by decide⟩ ⟨rfl, rfl⟩ h (fun v2 t1 hn_v2 h => ?_)
  refine g_aload_n X dX7_numberOfName_8 0 rfl ?_
  refine g_getR X fH_X7_15_303 rfl dX7_numberOfName_9 ?_
  refine g_getR X fH_X7_67_301 rfl dX7_numberOfName_12 ?_
  refine g_iconst X dX7_numberOfName_15 ?_
  refine g_callOI (rest := []) X (fun u9 h9 => cp_X6_find l E r N v2.toNat hn_v2 335 12294 aH_335 0 t1 u9 h9) yy_X6_find yi_X6_find wdM_RX7_71 (oX6 (o := v2.toNat) hn_v2) rfl rfl rfl (Nat.le_of_ble_eq_true rfl) dX7_numberOfName_16 ⟨by decide, by decide⟩ ⟨rfl, rfl⟩ h (fun v4 t3 h => ?_)
  exact g_iret X h dX7_numberOfName_19
set_option maxHeartbeats 4000000 in
set_option maxRecDepth 100000 in
theorem cp_X7_numberOfName (l : Launch) (E : cE) (r : Nat → Nat) (N : Nat) (a0 : Int) (t : St) (z : Int × St) (h : f_X7_numberOfName N a0 t = some z) : cM l E yX7_numberOfName cX7_numberOfName 2 (some .int) rm_f_X7_numberOfName [.ref (r 303), iv a0] (gW E r shH t) (gqI E (gW E r shH) z) := by
  refine g_of (w := gW E r shH) (by decide) (Nat.le_of_ble_eq_true rfl) ?_
  intro p e s m below meth c A X
  exact g_sub (lv' := [(0, .ref (r 303)), (1, iv a0)]) [0, 1] rfl (b_f_X7_numberOfName X h)
theorem yy_X7_numberOfName : cY yX7_numberOfName cX7_numberOfName 2 (some .int) 1 := ⟨wdK_X7_numberOfName, wdZ_RX7, by decide +kernel⟩
theorem yi_X7_numberOfName : cYi yX7_numberOfName := ⟨wdN_X7_numberOfName, wdS_X7_numberOfName⟩
theorem dX10_startOf_0 : decode cX10_startOf 0 = .ok (.iload_n 1, 1) := by decide +kernel
theorem dX10_startOf_1 : decode cX10_startOf 1 = .ok (.ifCond .lt 20, 3) := by decide +kernel
theorem dX10_startOf_4 : decode cX10_startOf 4 = .ok (.iload_n 1, 1) := by decide +kernel
theorem dX10_startOf_5 : decode cX10_startOf 5 = .ok (.aload_n 0, 1) := by decide +kernel
theorem dX10_startOf_6 : decode cX10_startOf 6 = .ok (.getfield 48, 3) := by decide +kernel
theorem dX10_startOf_9 : decode cX10_startOf 9 = .ok (.if_icmp .ge 12, 3) := by decide +kernel
theorem dX10_startOf_12 : decode cX10_startOf 12 = .ok (.aload_n 0, 1) := by decide +kernel
theorem dX10_startOf_13 : decode cX10_startOf 13 = .ok (.getfield 26, 3) := by decide +kernel
theorem dX10_startOf_16 : decode cX10_startOf 16 = .ok (.iload_n 1, 1) := by decide +kernel
theorem dX10_startOf_17 : decode cX10_startOf 17 = .ok (.iaload, 1) := by decide +kernel
theorem dX10_startOf_18 : decode cX10_startOf 18 = .ok (.goto 4, 3) := by decide +kernel
theorem dX10_startOf_21 : decode cX10_startOf 21 = .ok (.iconst 0, 1) := by decide +kernel
theorem dX10_startOf_22 : decode cX10_startOf 22 = .ok (.ireturn, 1) := by decide +kernel
abbrev rm_f_X10_startOf : Room := { frames := 0, cells := 0, slots := 0, locals := 0 }
def f_X10_startOf (N : Nat) (a0 : Int) (t : St) : Option (Int × St) :=
    cmpI a0 0 (if a0 < 0 then (some (0, t))
    else (lt1 (t.1 301 7) fun v1 =>
    cmpI a0 v1 (if a0 < v1 then (ixI a0 4098 (lt1 (t.1 334 a0.toNat) fun v2 =>
    some (v2, t)))
    else (some (0, t)))))
set_option maxHeartbeats 4000000 in
set_option maxRecDepth 100000 in
theorem b_f_X10_startOf {p : Program} {l : Launch} {e : Env} {s : State} {m : MethodId} {args : Array Value} {below : List Frame} {meth : Method} {c : Code} {E : cE} {A : Nat → Prop} {r : Nat → Nat} {mc ms : Nat} {z : Int × St} {N : Nat} {a0 : Int} {t : St} (X : gX p s m meth c cX10_startOf 2 (some .int) yX10_startOf args E A) (h : f_X10_startOf N a0 t = some z) : gP p l e rm_f_X10_startOf s m args below meth c E A 2 (MQ below ((gqI E (gW E r shH) z) A) args s mc ms A) (gW E r shH) 0 [(0, .ref (r 301)), (1, iv a0)] [] t := by
  unfold f_X10_startOf at h
  refine g_iload_n X dX10_startOf_0 1 rfl ?_
  refine g_if_lt (tgt := 21) X dX10_startOf_1 (by decide) h (fun h => ?_) (fun h => ?_)
  · refine g_iconst X dX10_startOf_21 ?_
    exact g_iret X h dX10_startOf_22
  · refine g_iload_n X dX10_startOf_4 1 rfl ?_
    refine g_aload_n X dX10_startOf_5 0 rfl ?_
    refine g_getI X fH_X10_48_301 rfl dX10_startOf_6 h (fun v1 h => ?_)
    refine g_icmp_ge (tgt := 21) X dX10_startOf_9 (by decide) h (fun h => ?_) (fun h => ?_)
    · refine g_iconst X dX10_startOf_21 ?_
      exact g_iret X h dX10_startOf_22
    · refine g_aload_n X dX10_startOf_12 0 rfl ?_
      refine g_getR X fH_X10_26_301 rfl dX10_startOf_13 ?_
      refine g_iload_n X dX10_startOf_16 1 rfl ?_
      refine g_iald X aH_334 dX10_startOf_17 h (fun v2 h => ?_)
      refine g_goto (tgt := 22) X dX10_startOf_18 (by decide) ?_
      exact g_iret X h dX10_startOf_22
set_option maxHeartbeats 4000000 in
set_option maxRecDepth 100000 in
theorem cp_X10_startOf (l : Launch) (E : cE) (r : Nat → Nat) (N : Nat) (a0 : Int) (t : St) (z : Int × St) (h : f_X10_startOf N a0 t = some z) : cM l E yX10_startOf cX10_startOf 2 (some .int) rm_f_X10_startOf [.ref (r 301), iv a0] (gW E r shH t) (gqI E (gW E r shH) z) := by
  refine g_of (w := gW E r shH) (by decide) (Nat.le_of_ble_eq_true rfl) ?_
  intro p e s m below meth c A X
  exact g_sub (lv' := [(0, .ref (r 301)), (1, iv a0)]) [0, 1] rfl (b_f_X10_startOf X h)
theorem yy_X10_startOf : cY yX10_startOf cX10_startOf 2 (some .int) 1 := ⟨wdK_X10_startOf, wdZ_RX10, by decide +kernel⟩
theorem yi_X10_startOf : cYi yX10_startOf := ⟨wdN_X10_startOf, wdS_X10_startOf⟩
theorem dX7_wrongPlace_0 : decode cX7_wrongPlace 0 = .ok (.aload_n 0, 1) := by decide +kernel
theorem dX7_wrongPlace_1 : decode cX7_wrongPlace 1 = .ok (.getfield 15, 3) := by decide +kernel
theorem dX7_wrongPlace_4 : decode cX7_wrongPlace 4 = .ok (.aload_n 0, 1) := by decide +kernel
theorem dX7_wrongPlace_5 : decode cX7_wrongPlace 5 = .ok (.getfield 77, 3) := by decide +kernel
theorem dX7_wrongPlace_8 : decode cX7_wrongPlace 8 = .ok (.invokevirtual 80, 3) := by decide +kernel
theorem dX7_wrongPlace_11 : decode cX7_wrongPlace 11 = .ok (.ireturn, 1) := by decide +kernel
abbrev rm_f_X7_wrongPlace : Room := { frames := 1, cells := 0, slots := 0, locals := 21 }
def f_X7_wrongPlace (N : Nat) (t : St) : Option (Int × St) :=
    lt1 (t.1 303 2) fun v1 =>
    bdI (f_X10_startOf N v1 t) fun v3 t2 =>
    some (v3, t2)
set_option maxHeartbeats 4000000 in
set_option maxRecDepth 100000 in
theorem b_f_X7_wrongPlace {p : Program} {l : Launch} {e : Env} {s : State} {m : MethodId} {args : Array Value} {below : List Frame} {meth : Method} {c : Code} {E : cE} {A : Nat → Prop} {r : Nat → Nat} {mc ms : Nat} {z : Int × St} {N : Nat} {t : St} (X : gX p s m meth c cX7_wrongPlace 1 (some .int) yX7_wrongPlace args E A) (h : f_X7_wrongPlace N t = some z) : gP p l e rm_f_X7_wrongPlace s m args below meth c E A 1 (MQ below ((gqI E (gW E r shH) z) A) args s mc ms A) (gW E r shH) 0 [(0, .ref (r 303))] [] t := by
  unfold f_X7_wrongPlace at h
  refine g_aload_n X dX7_wrongPlace_0 0 rfl ?_
  refine g_getR X fH_X7_15_303 rfl dX7_wrongPlace_1 ?_
  refine g_aload_n X dX7_wrongPlace_4 0 rfl ?_
  refine g_getI X fH_X7_77_303 rfl dX7_wrongPlace_5 h (fun v1 h => ?_)
  refine g_callOI (rest := []) X (fun u9 h9 => cp_X10_startOf l E r N v1 t u9 h9) yy_X10_startOf yi_X10_startOf wdM_RX7_80 ⟨_, _, oH_301⟩ rfl rfl rfl (Nat.le_of_ble_eq_true rfl) dX7_wrongPlace_8 ⟨by decide, by decide⟩ ⟨rfl, rfl⟩ h (fun v3 t2 h => ?_)
  exact g_iret X h dX7_wrongPlace_11
set_option maxHeartbeats 4000000 in
set_option maxRecDepth 100000 in
theorem cp_X7_wrongPlace (l : Launch) (E : cE) (r : Nat → Nat) (N : Nat) (t : St) (z : Int × St) (h : f_X7_wrongPlace N t = some z) : cM l E yX7_wrongPlace cX7_wrongPlace 1 (some .int) rm_f_X7_wrongPlace [.ref (r 303)] (gW E r shH t) (gqI E (gW E r shH) z) := by
  refine g_of (w := gW E r shH) (by decide) (Nat.le_of_ble_eq_true rfl) ?_
  intro p e s m below meth c A X
  exact g_sub (lv' := [(0, .ref (r 303))]) [0] rfl (b_f_X7_wrongPlace X h)
theorem yy_X7_wrongPlace : cY yX7_wrongPlace cX7_wrongPlace 1 (some .int) 0 := ⟨wdK_X7_wrongPlace, wdZ_RX7, by decide +kernel⟩
theorem yi_X7_wrongPlace : cYi yX7_wrongPlace := ⟨wdN_X7_wrongPlace, wdS_X7_wrongPlace⟩
theorem dX8_limit_0 : decode cX8_limit 0 = .ok (.aload_n 0, 1) := by decide +kernel
theorem dX8_limit_1 : decode cX8_limit 1 = .ok (.iconst 1, 1) := by decide +kernel
theorem dX8_limit_2 : decode cX8_limit 2 = .ok (.putfield 23, 3) := by decide +kernel
theorem dX8_limit_5 : decode cX8_limit 5 = .ok (.aload_n 0, 1) := by decide +kernel
theorem dX8_limit_6 : decode cX8_limit 6 = .ok (.iconst 0, 1) := by decide +kernel
theorem dX8_limit_7 : decode cX8_limit 7 = .ok (.putfield 27, 3) := by decide +kernel
theorem dX8_limit_10 : decode cX8_limit 10 = .ok (.aload_n 0, 1) := by decide +kernel
theorem dX8_limit_11 : decode cX8_limit 11 = .ok (.iconst 0, 1) := by decide +kernel
theorem dX8_limit_12 : decode cX8_limit 12 = .ok (.putfield 31, 3) := by decide +kernel
theorem dX8_limit_15 : decode cX8_limit 15 = .ok (.return_, 1) := by decide +kernel
abbrev rm_f_X8_limit : Room := { frames := 0, cells := 0, slots := 0, locals := 0 }
def f_X8_limit (N : Nat) (o0 : Nat) (t : St) : Option (St) :=
    boI 1 (lt1 (pI t (307 + o0) 8 1) fun t1 =>
    lt1 (pI t1 (307 + o0) 9 0) fun t2 =>
    lt1 (pI t2 (307 + o0) 10 0) fun t3 =>
    some t3)
set_option maxHeartbeats 4000000 in
set_option maxRecDepth 100000 in
theorem b_f_X8_limit {p : Program} {l : Launch} {e : Env} {s : State} {m : MethodId} {args : Array Value} {below : List Frame} {meth : Method} {c : Code} {E : cE} {A : Nat → Prop} {r : Nat → Nat} {mc ms : Nat} {z : St} {N : Nat} {o0 : Nat} (ho0 : o0 < 2) {t : St} (X : gX p s m meth c cX8_limit 1 none yX8_limit args E A) (h : f_X8_limit N o0 t = some z) : gP p l e rm_f_X8_limit s m args below meth c E A 1 (MQ below ((gqV E (gW E r shH) z) A) args s mc ms A) (gW E r shH) 0 [(0, .ref (r (307 + o0)))] [] t := by
  unfold f_X8_limit at h
  refine g_aload_n X dX8_limit_0 0 rfl ?_
  refine g_iconst X dX8_limit_1 ?_
  refine g_putZ X (fH_X8_23_ow (o := o0) ho0) rfl dX8_limit_2 h (fun t1 h => ?_)
  refine g_aload_n X dX8_limit_5 0 rfl ?_
  refine g_iconst X dX8_limit_6 ?_
  refine g_putI X (fH_X8_27_ow (o := o0) ho0) rfl dX8_limit_7 h (fun t2 h => ?_)
  refine g_aload_n X dX8_limit_10 0 rfl ?_
  refine g_iconst X dX8_limit_11 ?_
  refine g_putI X (fH_X8_31_ow (o := o0) ho0) rfl dX8_limit_12 h (fun t3 h => ?_)
  exact g_vret X h dX8_limit_15
set_option maxHeartbeats 4000000 in
set_option maxRecDepth 100000 in
theorem cp_X8_limit (l : Launch) (E : cE) (r : Nat → Nat) (N : Nat) (o0 : Nat) (ho0 : o0 < 2) (t : St) (z : St) (h : f_X8_limit N o0 t = some z) : cM l E yX8_limit cX8_limit 1 none rm_f_X8_limit [.ref (r (307 + o0))] (gW E r shH t) (gqV E (gW E r shH) z) := by
  refine g_of (w := gW E r shH) (by decide) (Nat.le_of_ble_eq_true rfl) ?_
  intro p e s m below meth c A X
  exact g_sub (lv' := [(0, .ref (r (307 + o0)))]) [0] rfl (b_f_X8_limit ho0 X h)
theorem yy_X8_limit : cY yX8_limit cX8_limit 1 none 0 := ⟨wdK_X8_limit, wdZ_RX8, by decide +kernel⟩
theorem yi_X8_limit : cYi yX8_limit := ⟨wdN_X8_limit, wdS_X8_limit⟩
theorem dX8_start_0 : decode cX8_start 0 = .ok (.aload_n 0, 1) := by decide +kernel
theorem dX8_start_1 : decode cX8_start 1 = .ok (.iconst 1, 1) := by decide +kernel
theorem dX8_start_2 : decode cX8_start 2 = .ok (.putfield 34, 3) := by decide +kernel
theorem dX8_start_5 : decode cX8_start 5 = .ok (.aload_n 0, 1) := by decide +kernel
theorem dX8_start_6 : decode cX8_start 6 = .ok (.aload_n 0, 1) := by decide +kernel
theorem dX8_start_7 : decode cX8_start 7 = .ok (.getfield 15, 3) := by decide +kernel
theorem dX8_start_10 : decode cX8_start 10 = .ok (.getfield 37, 3) := by decide +kernel
theorem dX8_start_13 : decode cX8_start 13 = .ok (.iload_n 1, 1) := by decide +kernel
theorem dX8_start_14 : decode cX8_start 14 = .ok (.iaload, 1) := by decide +kernel
theorem dX8_start_15 : decode cX8_start 15 = .ok (.putfield 43, 3) := by decide +kernel
theorem dX8_start_18 : decode cX8_start 18 = .ok (.aload_n 0, 1) := by decide +kernel
theorem dX8_start_19 : decode cX8_start 19 = .ok (.lload_n 2, 1) := by decide +kernel
theorem dX8_start_20 : decode cX8_start 20 = .ok (.putfield 46, 3) := by decide +kernel
theorem dX8_start_23 : decode cX8_start 23 = .ok (.aload_n 0, 1) := by decide +kernel
theorem dX8_start_24 : decode cX8_start 24 = .ok (.iconst 0, 1) := by decide +kernel
theorem dX8_start_25 : decode cX8_start 25 = .ok (.putfield 50, 3) := by decide +kernel
theorem dX8_start_28 : decode cX8_start 28 = .ok (.return_, 1) := by decide +kernel
abbrev rm_f_X8_start : Room := { frames := 0, cells := 0, slots := 0, locals := 0 }
def f_X8_start (N : Nat) (o0 : Nat) (a0 : Int) (a1 : Int64) (t : St) : Option (St) :=
    boI 1 (lt1 (pI t (307 + o0) 2 1) fun t1 =>
    ixI a0 60 (lt1 (t1.1 360 a0.toNat) fun v2 =>
    lt1 (pI t1 (307 + o0) 3 v2) fun t3 =>
    lt1 (pL t3 (307 + o0) 4 a1) fun t4 =>
    lt1 (pI t4 (307 + o0) 6 0) fun t5 =>
    some t5))
set_option maxHeartbeats 4000000 in
set_option maxRecDepth 100000 in
theorem b_f_X8_start {p : Program} {l : Launch} {e : Env} {s : State} {m : MethodId} {args : Array Value} {below : List Frame} {meth : Method} {c : Code} {E : cE} {A : Nat → Prop} {r : Nat → Nat} {mc ms : Nat} {z : St} {N : Nat} {o0 : Nat} (ho0 : o0 < 2) {a0 : Int} {a1 : Int64} {t : St} (X : gX p s m meth c cX8_start 4 none yX8_start args E A) (h : f_X8_start N o0 a0 a1 t = some z) : gP p l e rm_f_X8_start s m args below meth c E A 4 (MQ below ((gqV E (gW E r shH) z) A) args s mc ms A) (gW E r shH) 0 [(0, .ref (r (307 + o0))), (1, iv a0), (2, .long a1)] [] t := by
  unfold f_X8_start at h
  refine g_aload_n X dX8_start_0 0 rfl ?_
  refine g_iconst X dX8_start_1 ?_
  refine g_putZ X (fH_X8_34_ow (o := o0) ho0) rfl dX8_start_2 h (fun t1 h => ?_)
  refine g_aload_n X dX8_start_5 0 rfl ?_
  refine g_aload_n X dX8_start_6 0 rfl ?_
  refine g_getR X (fH_X8_15_o (o := o0) ho0) rfl dX8_start_7 ?_
  refine g_getR X fH_X8_37_302 rfl dX8_start_10 ?_
  refine g_iload_n X dX8_start_13 1 rfl ?_
  refine g_iald X aH_360 dX8_start_14 h (fun v2 h => ?_)
  refine g_putI X (fH_X8_43_ow (o := o0) ho0) rfl dX8_start_15 h (fun t3 h => ?_)
  refine g_aload_n X dX8_start_18 0 rfl ?_
  refine g_lload_n X dX8_start_19 2 rfl ?_
  refine g_putL X (fH_X8_46_ow (o := o0) ho0) rfl dX8_start_20 h (fun t4 h => ?_)
  refine g_aload_n X dX8_start_23 0 rfl ?_
  refine g_iconst X dX8_start_24 ?_
  refine g_putI X (fH_X8_50_ow (o := o0) ho0) rfl dX8_start_25 h (fun t5 h => ?_)
  exact g_vret X h dX8_start_28
set_option maxHeartbeats 4000000 in
set_option maxRecDepth 100000 in
theorem cp_X8_start (l : Launch) (E : cE) (r : Nat → Nat) (N : Nat) (o0 : Nat) (ho0 : o0 < 2) (a0 : Int) (a1 : Int64) (t : St) (z : St) (h : f_X8_start N o0 a0 a1 t = some z) : cM l E yX8_start cX8_start 4 none rm_f_X8_start [.ref (r (307 + o0)), iv a0, .long a1] (gW E r shH t) (gqV E (gW E r shH) z) := by
  refine g_of (w := gW E r shH) (by decide) (Nat.le_of_ble_eq_true rfl) ?_
  intro p e s m below meth c A X
  exact g_sub (lv' := [(0, .ref (r (307 + o0))), (1, iv a0), (2, .long a1)]) [0, 1, 2] rfl (b_f_X8_start ho0 X h)
theorem yy_X8_start : cY yX8_start cX8_start 4 none 2 := ⟨wdK_X8_start, wdZ_RX8, by decide +kernel⟩
theorem yi_X8_start : cYi yX8_start := ⟨wdN_X8_start, wdS_X8_start⟩
theorem dX8_dance_0 : decode cX8_dance 0 = .ok (.aload_n 0, 1) := by decide +kernel
theorem dX8_dance_1 : decode cX8_dance 1 = .ok (.dup, 1) := by decide +kernel
theorem dX8_dance_2 : decode cX8_dance 2 = .ok (.getfield 31, 3) := by decide +kernel
theorem dX8_dance_5 : decode cX8_dance 5 = .ok (.iconst 1, 1) := by decide +kernel
theorem dX8_dance_6 : decode cX8_dance 6 = .ok (.iadd, 1) := by decide +kernel
theorem dX8_dance_7 : decode cX8_dance 7 = .ok (.putfield 31, 3) := by decide +kernel
theorem dX8_dance_10 : decode cX8_dance 10 = .ok (.aload_n 0, 1) := by decide +kernel
theorem dX8_dance_11 : decode cX8_dance 11 = .ok (.getfield 23, 3) := by decide +kernel
theorem dX8_dance_14 : decode cX8_dance 14 = .ok (.ifCond .eq 15, 3) := by decide +kernel
theorem dX8_dance_17 : decode cX8_dance 17 = .ok (.aload_n 0, 1) := by decide +kernel
theorem dX8_dance_18 : decode cX8_dance 18 = .ok (.getfield 31, 3) := by decide +kernel
theorem dX8_dance_21 : decode cX8_dance 21 = .ok (.sipush 2000, 3) := by decide +kernel
theorem dX8_dance_24 : decode cX8_dance 24 = .ok (.if_icmp .le 5, 3) := by decide +kernel
theorem dX8_dance_27 : decode cX8_dance 27 = .ok (.iconst 4, 1) := by decide +kernel
theorem dX8_dance_28 : decode cX8_dance 28 = .ok (.ireturn, 1) := by decide +kernel
theorem dX8_dance_29 : decode cX8_dance 29 = .ok (.aload_n 0, 1) := by decide +kernel
theorem dX8_dance_30 : decode cX8_dance 30 = .ok (.getfield 19, 3) := by decide +kernel
theorem dX8_dance_33 : decode cX8_dance 33 = .ok (.aload_n 0, 1) := by decide +kernel
theorem dX8_dance_34 : decode cX8_dance 34 = .ok (.getfield 43, 3) := by decide +kernel
theorem dX8_dance_37 : decode cX8_dance 37 = .ok (.aload_n 1, 1) := by decide +kernel
theorem dX8_dance_38 : decode cX8_dance 38 = .ok (.aload_n 0, 1) := by decide +kernel
theorem dX8_dance_39 : decode cX8_dance 39 = .ok (.getfield 46, 3) := by decide +kernel
theorem dX8_dance_42 : decode cX8_dance 42 = .ok (.invokevirtual 85, 3) := by decide +kernel
theorem dX8_dance_45 : decode cX8_dance 45 = .ok (.ifCond .eq 5, 3) := by decide +kernel
theorem dX8_dance_48 : decode cX8_dance 48 = .ok (.iconst 2, 1) := by decide +kernel
theorem dX8_dance_49 : decode cX8_dance 49 = .ok (.ireturn, 1) := by decide +kernel
theorem dX8_dance_50 : decode cX8_dance 50 = .ok (.aload_n 0, 1) := by decide +kernel
theorem dX8_dance_51 : decode cX8_dance 51 = .ok (.aload_n 0, 1) := by decide +kernel
theorem dX8_dance_52 : decode cX8_dance 52 = .ok (.getfield 19, 3) := by decide +kernel
theorem dX8_dance_55 : decode cX8_dance 55 = .ok (.getfield 88, 3) := by decide +kernel
theorem dX8_dance_58 : decode cX8_dance 58 = .ok (.putfield 43, 3) := by decide +kernel
theorem dX8_dance_61 : decode cX8_dance 61 = .ok (.aload_n 0, 1) := by decide +kernel
theorem dX8_dance_62 : decode cX8_dance 62 = .ok (.getfield 19, 3) := by decide +kernel
theorem dX8_dance_65 : decode cX8_dance 65 = .ok (.aload_n 1, 1) := by decide +kernel
theorem dX8_dance_66 : decode cX8_dance 66 = .ok (.invokevirtual 91, 3) := by decide +kernel
theorem dX8_dance_69 : decode cX8_dance 69 = .ok (.iconst 1, 1) := by decide +kernel
theorem dX8_dance_70 : decode cX8_dance 70 = .ok (.ireturn, 1) := by decide +kernel
abbrev rm_f_X8_dance : Room := { frames := 5, cells := 0, slots := 0, locals := 152 }
def f_X8_dance (N : Nat) (o0 : Nat) (o1 : Nat) (t : St) : Option (Int × St) :=
    lt1 (t.1 (307 + o0) 10) fun v1 =>
    lt1 (pI t (307 + o0) 10 (v1 + 1)) fun t2 =>
    lt1 (t2.1 (307 + o0) 8) fun v3 =>
    jn1 (fun (t4 : St) => lt1 (t4.1 (307 + o0) 3) fun v6 =>
    lt1 (t4.2 (307 + o0) 4) fun v7 =>
    bdI (f_X1_attempt N o1 v6 v7 t4) fun v9 t8 =>
    cmpI v9 0 (if v9 = 0 then (lt1 (t8.1 304 12) fun v10 =>
    lt1 (pI t8 (307 + o0) 3 v10) fun t11 =>
    bdV (f_X1_settle N o1 t11) fun t12 =>
    some (1, t12))
    else (some (2, t8)))) fun J5 =>
    cmpI v3 0 (if v3 = 0 then (J5 t2)
    else (lt1 (t2.1 (307 + o0) 10) fun v13 =>
    cmpI v13 2000 (if 2000 < v13 then (some (4, t2))
    else (J5 t2))))
set_option maxHeartbeats 4000000 in
set_option maxRecDepth 100000 in
theorem b_f_X8_dance {p : Program} {l : Launch} {e : Env} {s : State} {m : MethodId} {args : Array Value} {below : List Frame} {meth : Method} {c : Code} {E : cE} {A : Nat → Prop} {r : Nat → Nat} {mc ms : Nat} {z : Int × St} {N : Nat} {o0 : Nat} (ho0 : o0 < 2) {o1 : Nat} (ho1 : o1 < 2) {t : St} (X : gX p s m meth c cX8_dance 2 (some .int) yX8_dance args E A) (h : f_X8_dance N o0 o1 t = some z) : gP p l e rm_f_X8_dance s m args below meth c E A 2 (MQ below ((gqI E (gW E r shH) z) A) args s mc ms A) (gW E r shH) 0 [(0, .ref (r (307 + o0))), (1, .ref (r (305 + o1)))] [] t := by
  unfold f_X8_dance at h
  refine g_aload_n X dX8_dance_0 0 rfl ?_
  refine g_dup X rfl dX8_dance_1 ?_
  refine g_getI X (fH_X8_31_o (o := o0) ho0) rfl dX8_dance_2 h (fun v1 h => ?_)
  refine g_iconst X dX8_dance_5 ?_
  refine g_iadd X dX8_dance_6 ?_
  refine g_putI X (fH_X8_31_ow (o := o0) ho0) rfl dX8_dance_7 h (fun t2 h => ?_)
  refine g_aload_n X dX8_dance_10 0 rfl ?_
  refine g_getI X (fH_X8_23_o (o := o0) ho0) rfl dX8_dance_11 h (fun v3 h => ?_)
  refine g_join (J := fun jj => ∀ (t4 : St), jj  t4 = some z → gP p l e rm_f_X8_dance s m args below meth c E A 2 (MQ below ((gqI E (gW E r shH) z) A) args s mc ms A) (gW E r shH) 29 [(0, .ref (r (307 + o0))), (1, .ref (r (305 + o1)))] [] t4) h (fun  t4 h => ?_) (fun J5 hJ5 h => ?_)
  · refine g_aload_n X dX8_dance_29 0 rfl ?_
    refine g_getR X (fH_X8_19_o (o := o0) ho0) rfl dX8_dance_30 ?_
    refine g_aload_n X dX8_dance_33 0 rfl ?_
    refine g_getI X (fH_X8_43_o (o := o0) ho0) rfl dX8_dance_34 h (fun v6 h => ?_)
    refine g_aload_n X dX8_dance_37 1 rfl ?_
    refine g_aload_n X dX8_dance_38 0 rfl ?_
    refine g_getL X (fH_X8_46_o (o := o0) ho0) rfl dX8_dance_39 h (fun v7 h => ?_)
    refine g_callOI (rest := []) X (fun u9 h9 => cp_X1_attempt l E r N o1 ho1 v6 v7 t4 u9 h9) yy_X1_attempt yi_X1_attempt wdM_RX8_85 ⟨_, _, oH_304⟩ rfl rfl rfl (Nat.le_of_ble_eq_true rfl) dX8_dance_42 ⟨by decide, by decide⟩ ⟨rfl, rfl⟩ h (fun v9 t8 h => ?_)
    refine g_if_eq (tgt := 50) X dX8_dance_45 (by decide) h (fun h => ?_) (fun h => ?_)
    · refine g_aload_n X dX8_dance_50 0 rfl ?_
      refine g_aload_n X dX8_dance_51 0 rfl ?_
      refine g_getR X (fH_X8_19_o (o := o0) ho0) rfl dX8_dance_52 ?_
      refine g_getI X fH_X8_88_304 rfl dX8_dance_55 h (fun v10 h => ?_)
      refine g_putI X (fH_X8_43_ow (o := o0) ho0) rfl dX8_dance_58 h (fun t11 h => ?_)
      refine g_aload_n X dX8_dance_61 0 rfl ?_
      refine g_getR X (fH_X8_19_o (o := o0) ho0) rfl dX8_dance_62 ?_
      refine g_aload_n X dX8_dance_65 1 rfl ?_
      refine g_callOV (rest := []) X (fun u9 h9 => cp_X1_settle l E r N o1 ho1 t11 u9 h9) yy_X1_settle yi_X1_settle wdM_RX8_91 ⟨_, _, oH_304⟩ rfl rfl rfl (Nat.le_of_ble_eq_true rfl) dX8_dance_66 ⟨by decide, by decide⟩ ⟨rfl, rfl⟩ h (fun t12 h => ?_)
      refine g_iconst X dX8_dance_69 ?_
      exact g_iret X h dX8_dance_70
    · refine g_iconst X dX8_dance_48 ?_
      exact g_iret X h dX8_dance_49
  refine g_if_eq (tgt := 29) X dX8_dance_14 (by decide) h (fun h => ?_) (fun h => ?_)
  · exact g_sub (lv' := [(0, .ref (r (307 + o0))), (1, .ref (r (305 + o1)))]) [0, 1] rfl (hJ5 t2 h)
  · refine g_aload_n X dX8_dance_17 0 rfl ?_
    refine g_getI X (fH_X8_31_o (o := o0) ho0) rfl dX8_dance_18 h (fun v13 h => ?_)
    refine g_sipush X dX8_dance_21 (by decide) ?_
    refine g_icmp_le (tgt := 29) X dX8_dance_24 (by decide) h (fun h => ?_) (fun h => ?_)
    · exact g_sub (lv' := [(0, .ref (r (307 + o0))), (1, .ref (r (305 + o1)))]) [0, 1] rfl (hJ5 t2 h)
    · refine g_iconst X dX8_dance_27 ?_
      exact g_iret X h dX8_dance_28
set_option maxHeartbeats 4000000 in
set_option maxRecDepth 100000 in
theorem cp_X8_dance (l : Launch) (E : cE) (r : Nat → Nat) (N : Nat) (o0 : Nat) (ho0 : o0 < 2) (o1 : Nat) (ho1 : o1 < 2) (t : St) (z : Int × St) (h : f_X8_dance N o0 o1 t = some z) : cM l E yX8_dance cX8_dance 2 (some .int) rm_f_X8_dance [.ref (r (307 + o0)), .ref (r (305 + o1))] (gW E r shH t) (gqI E (gW E r shH) z) := by
  refine g_of (w := gW E r shH) (by decide) (Nat.le_of_ble_eq_true rfl) ?_
  intro p e s m below meth c A X
  exact g_sub (lv' := [(0, .ref (r (307 + o0))), (1, .ref (r (305 + o1)))]) [0, 1] rfl (b_f_X8_dance ho0 ho1 X h)
theorem yy_X8_dance : cY yX8_dance cX8_dance 2 (some .int) 1 := ⟨wdK_X8_dance, wdZ_RX8, by decide +kernel⟩
theorem yi_X8_dance : cYi yX8_dance := ⟨wdN_X8_dance, wdS_X8_dance⟩
theorem dX8_top_0 : decode cX8_top 0 = .ok (.aload_n 0, 1) := by decide +kernel
theorem dX8_top_1 : decode cX8_top 1 = .ok (.getfield 50, 3) := by decide +kernel
theorem dX8_top_4 : decode cX8_top 4 = .ok (.ifCond .le 17, 3) := by decide +kernel
theorem dX8_top_7 : decode cX8_top 7 = .ok (.aload_n 0, 1) := by decide +kernel
theorem dX8_top_8 : decode cX8_top 8 = .ok (.getfield 11, 3) := by decide +kernel
theorem dX8_top_11 : decode cX8_top 11 = .ok (.aload_n 0, 1) := by decide +kernel
theorem dX8_top_12 : decode cX8_top 12 = .ok (.getfield 50, 3) := by decide +kernel
theorem dX8_top_15 : decode cX8_top 15 = .ok (.iconst 1, 1) := by decide +kernel
theorem dX8_top_16 : decode cX8_top 16 = .ok (.isub, 1) := by decide +kernel
theorem dX8_top_17 : decode cX8_top 17 = .ok (.laload, 1) := by decide +kernel
theorem dX8_top_18 : decode cX8_top 18 = .ok (.goto 4, 3) := by decide +kernel
theorem dX8_top_21 : decode cX8_top 21 = .ok (.lconst 0, 1) := by decide +kernel
theorem dX8_top_22 : decode cX8_top 22 = .ok (.lreturn, 1) := by decide +kernel
abbrev rm_f_X8_top : Room := { frames := 0, cells := 0, slots := 0, locals := 0 }
def f_X8_top (N : Nat) (o0 : Nat) (t : St) : Option (Int64 × St) :=
    lt1 (t.1 (307 + o0) 6) fun v1 =>
    cmpI v1 0 (if 0 < v1 then (lt1 (t.1 (307 + o0) 6) fun v2 =>
    ixI (v2 - 1) 1500 (lt1 (t.2 (410 + o0) (v2 - 1).toNat) fun v3 =>
    some (v3, t)))
    else (some ((0 : Int64), t)))
set_option maxHeartbeats 4000000 in
set_option maxRecDepth 100000 in
theorem b_f_X8_top {p : Program} {l : Launch} {e : Env} {s : State} {m : MethodId} {args : Array Value} {below : List Frame} {meth : Method} {c : Code} {E : cE} {A : Nat → Prop} {r : Nat → Nat} {mc ms : Nat} {z : Int64 × St} {N : Nat} {o0 : Nat} (ho0 : o0 < 2) {t : St} (X : gX p s m meth c cX8_top 1 (some .long) yX8_top args E A) (h : f_X8_top N o0 t = some z) : gP p l e rm_f_X8_top s m args below meth c E A 1 (MQ below ((gqL E (gW E r shH) z) A) args s mc ms A) (gW E r shH) 0 [(0, .ref (r (307 + o0)))] [] t := by
  unfold f_X8_top at h
  refine g_aload_n X dX8_top_0 0 rfl ?_
  refine g_getI X (fH_X8_50_o (o := o0) ho0) rfl dX8_top_1 h (fun v1 h => ?_)
  refine g_if_le (tgt := 21) X dX8_top_4 (by decide) h (fun h => ?_) (fun h => ?_)
  · refine g_lconst (v := 0) X dX8_top_21 (by decide) ?_
    exact g_lret X h dX8_top_22
  · refine g_aload_n X dX8_top_7 0 rfl ?_
    refine g_getR X (fH_X8_11_o (o := o0) ho0) rfl dX8_top_8 ?_
    refine g_aload_n X dX8_top_11 0 rfl ?_
    refine g_getI X (fH_X8_50_o (o := o0) ho0) rfl dX8_top_12 h (fun v2 h => ?_)
    refine g_iconst X dX8_top_15 ?_
    refine g_isub X dX8_top_16 ?_
    refine g_lald X (aR (o := o0) ho0) dX8_top_17 h (fun v3 h => ?_)
    refine g_goto (tgt := 22) X dX8_top_18 (by decide) ?_
    exact g_lret X h dX8_top_22
set_option maxHeartbeats 4000000 in
set_option maxRecDepth 100000 in
theorem cp_X8_top (l : Launch) (E : cE) (r : Nat → Nat) (N : Nat) (o0 : Nat) (ho0 : o0 < 2) (t : St) (z : Int64 × St) (h : f_X8_top N o0 t = some z) : cM l E yX8_top cX8_top 1 (some .long) rm_f_X8_top [.ref (r (307 + o0))] (gW E r shH t) (gqL E (gW E r shH) z) := by
  refine g_of (w := gW E r shH) (by decide) (Nat.le_of_ble_eq_true rfl) ?_
  intro p e s m below meth c A X
  exact g_sub (lv' := [(0, .ref (r (307 + o0)))]) [0] rfl (b_f_X8_top ho0 X h)
theorem yy_X8_top : cY yX8_top cX8_top 1 (some .long) 0 := ⟨wdK_X8_top, wdZ_RX8, by decide +kernel⟩
theorem yi_X8_top : cYi yX8_top := ⟨wdN_X8_top, wdS_X8_top⟩
theorem dX8_actsOf_0 : decode cX8_actsOf 0 = .ok (.iload_n 1, 1) := by decide +kernel
theorem dX8_actsOf_1 : decode cX8_actsOf 1 = .ok (.tableswitch 54 19 23 #[37, 54, 39, 54, 35], 35) := by decide +kernel
theorem dX8_actsOf_36 : decode cX8_actsOf 36 = .ok (.iload_n 2, 1) := by decide +kernel
theorem dX8_actsOf_37 : decode cX8_actsOf 37 = .ok (.ireturn, 1) := by decide +kernel
theorem dX8_actsOf_38 : decode cX8_actsOf 38 = .ok (.iconst 1, 1) := by decide +kernel
theorem dX8_actsOf_39 : decode cX8_actsOf 39 = .ok (.ireturn, 1) := by decide +kernel
theorem dX8_actsOf_40 : decode cX8_actsOf 40 = .ok (.aload_n 0, 1) := by decide +kernel
theorem dX8_actsOf_41 : decode cX8_actsOf 41 = .ok (.invokevirtual 95, 3) := by decide +kernel
theorem dX8_actsOf_44 : decode cX8_actsOf 44 = .ok (.lconst 0, 1) := by decide +kernel
theorem dX8_actsOf_45 : decode cX8_actsOf 45 = .ok (.lcmp, 1) := by decide +kernel
theorem dX8_actsOf_46 : decode cX8_actsOf 46 = .ok (.ifCond .le 7, 3) := by decide +kernel
theorem dX8_actsOf_49 : decode cX8_actsOf 49 = .ok (.iconst 1, 1) := by decide +kernel
theorem dX8_actsOf_50 : decode cX8_actsOf 50 = .ok (.goto 4, 3) := by decide +kernel
theorem dX8_actsOf_53 : decode cX8_actsOf 53 = .ok (.iconst 0, 1) := by decide +kernel
theorem dX8_actsOf_54 : decode cX8_actsOf 54 = .ok (.ireturn, 1) := by decide +kernel
theorem dX8_actsOf_55 : decode cX8_actsOf 55 = .ok (.iconst 0, 1) := by decide +kernel
theorem dX8_actsOf_56 : decode cX8_actsOf 56 = .ok (.ireturn, 1) := by decide +kernel
abbrev rm_f_X8_actsOf : Room := { frames := 1, cells := 0, slots := 0, locals := 20 }
def f_X8_actsOf (N : Nat) (o0 : Nat) (a0 : Int) (a1 : Int) (t : St) : Option (Int × St) :=
    rnI a0 (if a0 = 19 then (some (1, t))
    else (if a0 = 20 then (some (0, t))
    else (if a0 = 21 then (bdL (f_X8_top N o0 t) fun v2 t1 =>
    (if (0 : Int64) < v2 then (some (1, t1))
    else (some (0, t1))))
    else (if a0 = 22 then (some (0, t))
    else (if a0 = 23 then (some (a1, t))
    else (some (0, t)))))))
set_option maxHeartbeats 4000000 in
set_option maxRecDepth 100000 in
theorem b_f_X8_actsOf {p : Program} {l : Launch} {e : Env} {s : State} {m : MethodId} {args : Array Value} {below : List Frame} {meth : Method} {c : Code} {E : cE} {A : Nat → Prop} {r : Nat → Nat} {mc ms : Nat} {z : Int × St} {N : Nat} {o0 : Nat} (ho0 : o0 < 2) {a0 : Int} {a1 : Int} {t : St} (X : gX p s m meth c cX8_actsOf 3 (some .int) yX8_actsOf args E A) (h : f_X8_actsOf N o0 a0 a1 t = some z) : gP p l e rm_f_X8_actsOf s m args below meth c E A 3 (MQ below ((gqI E (gW E r shH) z) A) args s mc ms A) (gW E r shH) 0 [(0, .ref (r (307 + o0))), (1, iv a0), (2, iv a1)] [] t := by
  unfold f_X8_actsOf at h
  refine g_iload_n X dX8_actsOf_0 1 rfl ?_
  obtain ⟨hr9, h⟩ := rnI_some h
  by_cases e9_19 : a0 = 19
  · rw [if_pos e9_19] at h
    refine g_tableIn X (tgt := 38) (off := 37) dX8_actsOf_1 (k := 19) hr9 e9_19 (by decide) (by decide) rfl (by decide) ?_
    refine g_iconst X dX8_actsOf_38 ?_
    exact g_iret X h dX8_actsOf_39
  · rw [if_neg e9_19] at h
    by_cases e9_20 : a0 = 20
    · rw [if_pos e9_20] at h
      refine g_tableIn X (tgt := 55) (off := 54) dX8_actsOf_1 (k := 20) hr9 e9_20 (by decide) (by decide) rfl (by decide) ?_
      refine g_iconst X dX8_actsOf_55 ?_
      exact g_iret X h dX8_actsOf_56
    · rw [if_neg e9_20] at h
      by_cases e9_21 : a0 = 21
      · rw [if_pos e9_21] at h
        refine g_tableIn X (tgt := 40) (off := 39) dX8_actsOf_1 (k := 21) hr9 e9_21 (by decide) (by decide) rfl (by decide) ?_
        refine g_aload_n X dX8_actsOf_40 0 rfl ?_
        refine g_callOL (rest := []) X (fun u9 h9 => cp_X8_top l E r N o0 ho0 t u9 h9) yy_X8_top yi_X8_top wdM_RX8_95 (oX8 (o := o0) ho0) rfl rfl rfl (Nat.le_of_ble_eq_true rfl) dX8_actsOf_41 ⟨by decide, by decide⟩ ⟨rfl, rfl⟩ h (fun v2 t1 h => ?_)
        refine g_lconst (v := 0) X dX8_actsOf_44 (by decide) ?_
        refine g_lcmp_le (tgt := 53) X dX8_actsOf_45 dX8_actsOf_46 (by decide) h (fun h => ?_) (fun h => ?_)
        · refine g_iconst X dX8_actsOf_53 ?_
          exact g_iret X h dX8_actsOf_54
        · refine g_iconst X dX8_actsOf_49 ?_
          refine g_goto (tgt := 54) X dX8_actsOf_50 (by decide) ?_
          exact g_iret X h dX8_actsOf_54
      · rw [if_neg e9_21] at h
        by_cases e9_22 : a0 = 22
        · rw [if_pos e9_22] at h
          refine g_tableIn X (tgt := 55) (off := 54) dX8_actsOf_1 (k := 22) hr9 e9_22 (by decide) (by decide) rfl (by decide) ?_
          refine g_iconst X dX8_actsOf_55 ?_
          exact g_iret X h dX8_actsOf_56
        · rw [if_neg e9_22] at h
          by_cases e9_23 : a0 = 23
          · rw [if_pos e9_23] at h
            refine g_tableIn X (tgt := 36) (off := 35) dX8_actsOf_1 (k := 23) hr9 e9_23 (by decide) (by decide) rfl (by decide) ?_
            refine g_iload_n X dX8_actsOf_36 2 rfl ?_
            exact g_iret X h dX8_actsOf_37
          · rw [if_neg e9_23] at h
            refine g_tableOut X (tgt := 55) dX8_actsOf_1 hr9 (by omega) (by decide) ?_
            refine g_iconst X dX8_actsOf_55 ?_
            exact g_iret X h dX8_actsOf_56
set_option maxHeartbeats 4000000 in
set_option maxRecDepth 100000 in
theorem cp_X8_actsOf (l : Launch) (E : cE) (r : Nat → Nat) (N : Nat) (o0 : Nat) (ho0 : o0 < 2) (a0 : Int) (a1 : Int) (t : St) (z : Int × St) (h : f_X8_actsOf N o0 a0 a1 t = some z) : cM l E yX8_actsOf cX8_actsOf 3 (some .int) rm_f_X8_actsOf [.ref (r (307 + o0)), iv a0, iv a1] (gW E r shH t) (gqI E (gW E r shH) z) := by
  refine g_of (w := gW E r shH) (by decide) (Nat.le_of_ble_eq_true rfl) ?_
  intro p e s m below meth c A X
  exact g_sub (lv' := [(0, .ref (r (307 + o0))), (1, iv a0), (2, iv a1)]) [0, 1, 2] rfl (b_f_X8_actsOf ho0 X h)
theorem yy_X8_actsOf : cY yX8_actsOf cX8_actsOf 3 (some .int) 2 := ⟨wdK_X8_actsOf, wdZ_RX8, by decide +kernel⟩
theorem yi_X8_actsOf : cYi yX8_actsOf := ⟨wdN_X8_actsOf, wdS_X8_actsOf⟩
theorem dX8_count_0 : decode cX8_count 0 = .ok (.aload_n 0, 1) := by decide +kernel
theorem dX8_count_1 : decode cX8_count 1 = .ok (.dup, 1) := by decide +kernel
theorem dX8_count_2 : decode cX8_count 2 = .ok (.getfield 53, 3) := by decide +kernel
theorem dX8_count_5 : decode cX8_count 5 = .ok (.iload_n 1, 1) := by decide +kernel
theorem dX8_count_6 : decode cX8_count 6 = .ok (.iadd, 1) := by decide +kernel
theorem dX8_count_7 : decode cX8_count 7 = .ok (.putfield 53, 3) := by decide +kernel
theorem dX8_count_10 : decode cX8_count 10 = .ok (.aload_n 0, 1) := by decide +kernel
theorem dX8_count_11 : decode cX8_count 11 = .ok (.dup, 1) := by decide +kernel
theorem dX8_count_12 : decode cX8_count 12 = .ok (.getfield 27, 3) := by decide +kernel
theorem dX8_count_15 : decode cX8_count 15 = .ok (.iload_n 1, 1) := by decide +kernel
theorem dX8_count_16 : decode cX8_count 16 = .ok (.iadd, 1) := by decide +kernel
theorem dX8_count_17 : decode cX8_count 17 = .ok (.putfield 27, 3) := by decide +kernel
theorem dX8_count_20 : decode cX8_count 20 = .ok (.aload_n 0, 1) := by decide +kernel
theorem dX8_count_21 : decode cX8_count 21 = .ok (.getfield 53, 3) := by decide +kernel
theorem dX8_count_24 : decode cX8_count 24 = .ok (.sipush 2000, 3) := by decide +kernel
theorem dX8_count_27 : decode cX8_count 27 = .ok (.if_icmp .le 5, 3) := by decide +kernel
theorem dX8_count_30 : decode cX8_count 30 = .ok (.iconst 3, 1) := by decide +kernel
theorem dX8_count_31 : decode cX8_count 31 = .ok (.ireturn, 1) := by decide +kernel
theorem dX8_count_32 : decode cX8_count 32 = .ok (.aload_n 0, 1) := by decide +kernel
theorem dX8_count_33 : decode cX8_count 33 = .ok (.getfield 23, 3) := by decide +kernel
theorem dX8_count_36 : decode cX8_count 36 = .ok (.ifCond .eq 17, 3) := by decide +kernel
theorem dX8_count_39 : decode cX8_count 39 = .ok (.aload_n 0, 1) := by decide +kernel
theorem dX8_count_40 : decode cX8_count 40 = .ok (.getfield 27, 3) := by decide +kernel
theorem dX8_count_43 : decode cX8_count 43 = .ok (.sipush 20000, 3) := by decide +kernel
theorem dX8_count_46 : decode cX8_count 46 = .ok (.if_icmp .le 7, 3) := by decide +kernel
theorem dX8_count_49 : decode cX8_count 49 = .ok (.iconst 4, 1) := by decide +kernel
theorem dX8_count_50 : decode cX8_count 50 = .ok (.goto 4, 3) := by decide +kernel
theorem dX8_count_53 : decode cX8_count 53 = .ok (.iconst 1, 1) := by decide +kernel
theorem dX8_count_54 : decode cX8_count 54 = .ok (.ireturn, 1) := by decide +kernel
abbrev rm_f_X8_count : Room := { frames := 0, cells := 0, slots := 0, locals := 0 }
def f_X8_count (N : Nat) (o0 : Nat) (a0 : Int) (t : St) : Option (Int × St) :=
    lt1 (t.1 (307 + o0) 7) fun v1 =>
    lt1 (pI t (307 + o0) 7 (v1 + a0)) fun t2 =>
    lt1 (t2.1 (307 + o0) 9) fun v3 =>
    lt1 (pI t2 (307 + o0) 9 (v3 + a0)) fun t4 =>
    lt1 (t4.1 (307 + o0) 7) fun v5 =>
    cmpI v5 2000 (if 2000 < v5 then (some (3, t4))
    else (lt1 (t4.1 (307 + o0) 8) fun v6 =>
    cmpI v6 0 (if v6 = 0 then (some (1, t4))
    else (lt1 (t4.1 (307 + o0) 9) fun v7 =>
    cmpI v7 20000 (if 20000 < v7 then (some (4, t4))
    else (some (1, t4)))))))
set_option maxHeartbeats 4000000 in
set_option maxRecDepth 100000 in
theorem b_f_X8_count {p : Program} {l : Launch} {e : Env} {s : State} {m : MethodId} {args : Array Value} {below : List Frame} {meth : Method} {c : Code} {E : cE} {A : Nat → Prop} {r : Nat → Nat} {mc ms : Nat} {z : Int × St} {N : Nat} {o0 : Nat} (ho0 : o0 < 2) {a0 : Int} {t : St} (X : gX p s m meth c cX8_count 2 (some .int) yX8_count args E A) (h : f_X8_count N o0 a0 t = some z) : gP p l e rm_f_X8_count s m args below meth c E A 2 (MQ below ((gqI E (gW E r shH) z) A) args s mc ms A) (gW E r shH) 0 [(0, .ref (r (307 + o0))), (1, iv a0)] [] t := by
  unfold f_X8_count at h
  refine g_aload_n X dX8_count_0 0 rfl ?_
  refine g_dup X rfl dX8_count_1 ?_
  refine g_getI X (fH_X8_53_o (o := o0) ho0) rfl dX8_count_2 h (fun v1 h => ?_)
  refine g_iload_n X dX8_count_5 1 rfl ?_
  refine g_iadd X dX8_count_6 ?_
  refine g_putI X (fH_X8_53_ow (o := o0) ho0) rfl dX8_count_7 h (fun t2 h => ?_)
  refine g_aload_n X dX8_count_10 0 rfl ?_
  refine g_dup X rfl dX8_count_11 ?_
  refine g_getI X (fH_X8_27_o (o := o0) ho0) rfl dX8_count_12 h (fun v3 h => ?_)
  refine g_iload_n X dX8_count_15 1 rfl ?_
  refine g_iadd X dX8_count_16 ?_
  refine g_putI X (fH_X8_27_ow (o := o0) ho0) rfl dX8_count_17 h (fun t4 h => ?_)
  refine g_aload_n X dX8_count_20 0 rfl ?_
  refine g_getI X (fH_X8_53_o (o := o0) ho0) rfl dX8_count_21 h (fun v5 h => ?_)
  refine g_sipush X dX8_count_24 (by decide) ?_
  refine g_icmp_le (tgt := 32) X dX8_count_27 (by decide) h (fun h => ?_) (fun h => ?_)
  · refine g_aload_n X dX8_count_32 0 rfl ?_
    refine g_getI X (fH_X8_23_o (o := o0) ho0) rfl dX8_count_33 h (fun v6 h => ?_)
    refine g_if_eq (tgt := 53) X dX8_count_36 (by decide) h (fun h => ?_) (fun h => ?_)
    · refine g_iconst X dX8_count_53 ?_
      exact g_iret X h dX8_count_54
    · refine g_aload_n X dX8_count_39 0 rfl ?_
      refine g_getI X (fH_X8_27_o (o := o0) ho0) rfl dX8_count_40 h (fun v7 h => ?_)
      refine g_sipush X dX8_count_43 (by decide) ?_
      refine g_icmp_le (tgt := 53) X dX8_count_46 (by decide) h (fun h => ?_) (fun h => ?_)
      · refine g_iconst X dX8_count_53 ?_
        exact g_iret X h dX8_count_54
      · refine g_iconst X dX8_count_49 ?_
        refine g_goto (tgt := 54) X dX8_count_50 (by decide) ?_
        exact g_iret X h dX8_count_54
  · refine g_iconst X dX8_count_30 ?_
    exact g_iret X h dX8_count_31
set_option maxHeartbeats 4000000 in
set_option maxRecDepth 100000 in
theorem cp_X8_count (l : Launch) (E : cE) (r : Nat → Nat) (N : Nat) (o0 : Nat) (ho0 : o0 < 2) (a0 : Int) (t : St) (z : Int × St) (h : f_X8_count N o0 a0 t = some z) : cM l E yX8_count cX8_count 2 (some .int) rm_f_X8_count [.ref (r (307 + o0)), iv a0] (gW E r shH t) (gqI E (gW E r shH) z) := by
  refine g_of (w := gW E r shH) (by decide) (Nat.le_of_ble_eq_true rfl) ?_
  intro p e s m below meth c A X
  exact g_sub (lv' := [(0, .ref (r (307 + o0))), (1, iv a0)]) [0, 1] rfl (b_f_X8_count ho0 X h)
theorem yy_X8_count : cY yX8_count cX8_count 2 (some .int) 1 := ⟨wdK_X8_count, wdZ_RX8, by decide +kernel⟩
theorem yi_X8_count : cYi yX8_count := ⟨wdN_X8_count, wdS_X8_count⟩
theorem dX8_push_0 : decode cX8_push 0 = .ok (.aload_n 0, 1) := by decide +kernel
theorem dX8_push_1 : decode cX8_push 1 = .ok (.getfield 50, 3) := by decide +kernel
theorem dX8_push_4 : decode cX8_push 4 = .ok (.sipush 1500, 3) := by decide +kernel
theorem dX8_push_7 : decode cX8_push 7 = .ok (.if_icmp .ge 23, 3) := by decide +kernel
theorem dX8_push_10 : decode cX8_push 10 = .ok (.aload_n 0, 1) := by decide +kernel
theorem dX8_push_11 : decode cX8_push 11 = .ok (.getfield 11, 3) := by decide +kernel
theorem dX8_push_14 : decode cX8_push 14 = .ok (.aload_n 0, 1) := by decide +kernel
theorem dX8_push_15 : decode cX8_push 15 = .ok (.getfield 50, 3) := by decide +kernel
theorem dX8_push_18 : decode cX8_push 18 = .ok (.lload_n 1, 1) := by decide +kernel
theorem dX8_push_19 : decode cX8_push 19 = .ok (.lastore, 1) := by decide +kernel
theorem dX8_push_20 : decode cX8_push 20 = .ok (.aload_n 0, 1) := by decide +kernel
theorem dX8_push_21 : decode cX8_push 21 = .ok (.dup, 1) := by decide +kernel
theorem dX8_push_22 : decode cX8_push 22 = .ok (.getfield 50, 3) := by decide +kernel
theorem dX8_push_25 : decode cX8_push 25 = .ok (.iconst 1, 1) := by decide +kernel
theorem dX8_push_26 : decode cX8_push 26 = .ok (.iadd, 1) := by decide +kernel
theorem dX8_push_27 : decode cX8_push 27 = .ok (.putfield 50, 3) := by decide +kernel
theorem dX8_push_30 : decode cX8_push 30 = .ok (.return_, 1) := by decide +kernel
abbrev rm_f_X8_push : Room := { frames := 0, cells := 0, slots := 0, locals := 0 }
def f_X8_push (N : Nat) (o0 : Nat) (a0 : Int64) (t : St) : Option (St) :=
    lt1 (t.1 (307 + o0) 6) fun v1 =>
    cmpI v1 1500 (if v1 < 1500 then (lt1 (t.1 (307 + o0) 6) fun v2 =>
    ixI v2 1500 (lt1 (pL t (410 + o0) v2.toNat a0) fun t3 =>
    lt1 (t3.1 (307 + o0) 6) fun v4 =>
    lt1 (pI t3 (307 + o0) 6 (v4 + 1)) fun t5 =>
    some t5))
    else (some t))
set_option maxHeartbeats 4000000 in
set_option maxRecDepth 100000 in
theorem b_f_X8_push {p : Program} {l : Launch} {e : Env} {s : State} {m : MethodId} {args : Array Value} {below : List Frame} {meth : Method} {c : Code} {E : cE} {A : Nat → Prop} {r : Nat → Nat} {mc ms : Nat} {z : St} {N : Nat} {o0 : Nat} (ho0 : o0 < 2) {a0 : Int64} {t : St} (X : gX p s m meth c cX8_push 3 none yX8_push args E A) (h : f_X8_push N o0 a0 t = some z) : gP p l e rm_f_X8_push s m args below meth c E A 3 (MQ below ((gqV E (gW E r shH) z) A) args s mc ms A) (gW E r shH) 0 [(0, .ref (r (307 + o0))), (1, .long a0)] [] t := by
  unfold f_X8_push at h
  refine g_aload_n X dX8_push_0 0 rfl ?_
  refine g_getI X (fH_X8_50_o (o := o0) ho0) rfl dX8_push_1 h (fun v1 h => ?_)
  refine g_sipush X dX8_push_4 (by decide) ?_
  refine g_icmp_ge (tgt := 30) X dX8_push_7 (by decide) h (fun h => ?_) (fun h => ?_)
  · exact g_vret X h dX8_push_30
  · refine g_aload_n X dX8_push_10 0 rfl ?_
    refine g_getR X (fH_X8_11_o (o := o0) ho0) rfl dX8_push_11 ?_
    refine g_aload_n X dX8_push_14 0 rfl ?_
    refine g_getI X (fH_X8_50_o (o := o0) ho0) rfl dX8_push_15 h (fun v2 h => ?_)
    refine g_lload_n X dX8_push_18 1 rfl ?_
    refine g_last X (aR (o := o0) ho0) dX8_push_19 h (fun t3 h => ?_)
    refine g_aload_n X dX8_push_20 0 rfl ?_
    refine g_dup X rfl dX8_push_21 ?_
    refine g_getI X (fH_X8_50_o (o := o0) ho0) rfl dX8_push_22 h (fun v4 h => ?_)
    refine g_iconst X dX8_push_25 ?_
    refine g_iadd X dX8_push_26 ?_
    refine g_putI X (fH_X8_50_ow (o := o0) ho0) rfl dX8_push_27 h (fun t5 h => ?_)
    exact g_vret X h dX8_push_30
set_option maxHeartbeats 4000000 in
set_option maxRecDepth 100000 in
theorem cp_X8_push (l : Launch) (E : cE) (r : Nat → Nat) (N : Nat) (o0 : Nat) (ho0 : o0 < 2) (a0 : Int64) (t : St) (z : St) (h : f_X8_push N o0 a0 t = some z) : cM l E yX8_push cX8_push 3 none rm_f_X8_push [.ref (r (307 + o0)), .long a0] (gW E r shH t) (gqV E (gW E r shH) z) := by
  refine g_of (w := gW E r shH) (by decide) (Nat.le_of_ble_eq_true rfl) ?_
  intro p e s m below meth c A X
  exact g_sub (lv' := [(0, .ref (r (307 + o0))), (1, .long a0)]) [0, 1] rfl (b_f_X8_push ho0 X h)
theorem yy_X8_push : cY yX8_push cX8_push 3 none 1 := ⟨wdK_X8_push, wdZ_RX8, by decide +kernel⟩
theorem yi_X8_push : cYi yX8_push := ⟨wdN_X8_push, wdS_X8_push⟩
theorem dX8_pop_0 : decode cX8_pop 0 = .ok (.aload_n 0, 1) := by decide +kernel
theorem dX8_pop_1 : decode cX8_pop 1 = .ok (.invokevirtual 95, 3) := by decide +kernel
theorem dX8_pop_4 : decode cX8_pop 4 = .ok (.lstore_n 1, 1) := by decide +kernel
theorem dX8_pop_5 : decode cX8_pop 5 = .ok (.aload_n 0, 1) := by decide +kernel
theorem dX8_pop_6 : decode cX8_pop 6 = .ok (.getfield 50, 3) := by decide +kernel
theorem dX8_pop_9 : decode cX8_pop 9 = .ok (.ifCond .le 13, 3) := by decide +kernel
theorem dX8_pop_12 : decode cX8_pop 12 = .ok (.aload_n 0, 1) := by decide +kernel
theorem dX8_pop_13 : decode cX8_pop 13 = .ok (.dup, 1) := by decide +kernel
theorem dX8_pop_14 : decode cX8_pop 14 = .ok (.getfield 50, 3) := by decide +kernel
theorem dX8_pop_17 : decode cX8_pop 17 = .ok (.iconst 1, 1) := by decide +kernel
theorem dX8_pop_18 : decode cX8_pop 18 = .ok (.isub, 1) := by decide +kernel
theorem dX8_pop_19 : decode cX8_pop 19 = .ok (.putfield 50, 3) := by decide +kernel
theorem dX8_pop_22 : decode cX8_pop 22 = .ok (.lload_n 1, 1) := by decide +kernel
theorem dX8_pop_23 : decode cX8_pop 23 = .ok (.lreturn, 1) := by decide +kernel
abbrev rm_f_X8_pop : Room := { frames := 1, cells := 0, slots := 0, locals := 20 }
def f_X8_pop (N : Nat) (o0 : Nat) (t : St) : Option (Int64 × St) :=
    bdL (f_X8_top N o0 t) fun v2 t1 =>
    lt1 (t1.1 (307 + o0) 6) fun v3 =>
    cmpI v3 0 (if 0 < v3 then (lt1 (t1.1 (307 + o0) 6) fun v4 =>
    lt1 (pI t1 (307 + o0) 6 (v4 - 1)) fun t5 =>
    some (v2, t5))
    else (some (v2, t1)))
set_option maxHeartbeats 4000000 in
set_option maxRecDepth 100000 in
theorem b_f_X8_pop {p : Program} {l : Launch} {e : Env} {s : State} {m : MethodId} {args : Array Value} {below : List Frame} {meth : Method} {c : Code} {E : cE} {A : Nat → Prop} {r : Nat → Nat} {mc ms : Nat} {z : Int64 × St} {N : Nat} {o0 : Nat} (ho0 : o0 < 2) {t : St} (X : gX p s m meth c cX8_pop 3 (some .long) yX8_pop args E A) (h : f_X8_pop N o0 t = some z) : gP p l e rm_f_X8_pop s m args below meth c E A 3 (MQ below ((gqL E (gW E r shH) z) A) args s mc ms A) (gW E r shH) 0 [(0, .ref (r (307 + o0)))] [] t := by
  unfold f_X8_pop at h
  refine g_aload_n X dX8_pop_0 0 rfl ?_
  refine g_callOL (rest := []) X (fun u9 h9 => cp_X8_top l E r N o0 ho0 t u9 h9) yy_X8_top yi_X8_top wdM_RX8_95 (oX8 (o := o0) ho0) rfl rfl rfl (Nat.le_of_ble_eq_true rfl) dX8_pop_1 ⟨by decide, by decide⟩ ⟨rfl, rfl⟩ h (fun v2 t1 h => ?_)
  refine g_lstore_n (lv' := [(1, .long v2), (0, .ref (r (307 + o0)))]) X dX8_pop_4 rfl (by decide) rfl ?_
  refine g_aload_n X dX8_pop_5 1 rfl ?_
  refine g_getI X (fH_X8_50_o (o := o0) ho0) rfl dX8_pop_6 h (fun v3 h => ?_)
  refine g_if_le (tgt := 22) X dX8_pop_9 (by decide) h (fun h => ?_) (fun h => ?_)
  · refine g_lload_n X dX8_pop_22 0 rfl ?_
    exact g_lret X h dX8_pop_23
  · refine g_aload_n X dX8_pop_12 1 rfl ?_
    refine g_dup X rfl dX8_pop_13 ?_
    refine g_getI X (fH_X8_50_o (o := o0) ho0) rfl dX8_pop_14 h (fun v4 h => ?_)
    refine g_iconst X dX8_pop_17 ?_
    refine g_isub X dX8_pop_18 ?_
    refine g_putI X (fH_X8_50_ow (o := o0) ho0) rfl dX8_pop_19 h (fun t5 h => ?_)
    refine g_lload_n X dX8_pop_22 0 rfl ?_
    exact g_lret X h dX8_pop_23
set_option maxHeartbeats 4000000 in
set_option maxRecDepth 100000 in
theorem cp_X8_pop (l : Launch) (E : cE) (r : Nat → Nat) (N : Nat) (o0 : Nat) (ho0 : o0 < 2) (t : St) (z : Int64 × St) (h : f_X8_pop N o0 t = some z) : cM l E yX8_pop cX8_pop 3 (some .long) rm_f_X8_pop [.ref (r (307 + o0))] (gW E r shH t) (gqL E (gW E r shH) z) := by
  refine g_of (w := gW E r shH) (by decide) (Nat.le_of_ble_eq_true rfl) ?_
  intro p e s m below meth c A X
  exact g_sub (lv' := [(0, .ref (r (307 + o0)))]) [0] rfl (b_f_X8_pop ho0 X h)
theorem yy_X8_pop : cY yX8_pop cX8_pop 3 (some .long) 0 := ⟨wdK_X8_pop, wdZ_RX8, by decide +kernel⟩
theorem yi_X8_pop : cYi yX8_pop := ⟨wdN_X8_pop, wdS_X8_pop⟩
