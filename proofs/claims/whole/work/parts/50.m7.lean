abbrev rmS_block (D : Nat) : Room := { frames := D + 213, cells := 0, slots := 0, locals := 60 * D + 12350 }
theorem yy_X12_block : cY yX12_block cX12_block 2 (some .boolean) 0 := ⟨wdK_X12_block, wdZ_RX12, by decide +kernel⟩
theorem yi_X12_block : cYi yX12_block := ⟨wdN_X12_block, wdS_X12_block⟩
theorem yy_X12_statement : cY yX12_statement cX12_statement 1 (some .boolean) 0 := ⟨wdK_X12_statement, wdZ_RX12, by decide +kernel⟩
theorem yi_X12_statement : cYi yX12_statement := ⟨wdN_X12_statement, wdS_X12_statement⟩
theorem dX12_block_0 : decode cX12_block 0 = .ok (.aload_n 0, 1) := by decide +kernel
theorem dX12_block_1 : decode cX12_block 1 = .ok (.getfield 314, 3) := by decide +kernel
theorem dX12_block_4 : decode cX12_block 4 = .ok (.istore_n 1, 1) := by decide +kernel
theorem dX12_block_5 : decode cX12_block 5 = .ok (.aload_n 0, 1) := by decide +kernel
theorem dX12_block_6 : decode cX12_block 6 = .ok (.bipush 123, 2) := by decide +kernel
theorem dX12_block_8 : decode cX12_block 8 = .ok (.invokevirtual 398, 3) := by decide +kernel
theorem dX12_block_11 : decode cX12_block 11 = .ok (.ifCond .ne 5, 3) := by decide +kernel
theorem dX12_block_14 : decode cX12_block 14 = .ok (.iconst 0, 1) := by decide +kernel
theorem dX12_block_15 : decode cX12_block 15 = .ok (.ireturn, 1) := by decide +kernel
theorem dX12_block_16 : decode cX12_block 16 = .ok (.aload_n 0, 1) := by decide +kernel
theorem dX12_block_17 : decode cX12_block 17 = .ok (.bipush 125, 2) := by decide +kernel
theorem dX12_block_19 : decode cX12_block 19 = .ok (.invokevirtual 332, 3) := by decide +kernel
theorem dX12_block_22 : decode cX12_block 22 = .ok (.ifCond .ne 12, 3) := by decide +kernel
theorem dX12_block_25 : decode cX12_block 25 = .ok (.aload_n 0, 1) := by decide +kernel
theorem dX12_block_26 : decode cX12_block 26 = .ok (.invokevirtual 401, 3) := by decide +kernel
theorem dX12_block_29 : decode cX12_block 29 = .ok (.ifCond .ne (-13), 3) := by decide +kernel
theorem dX12_block_32 : decode cX12_block 32 = .ok (.iconst 0, 1) := by decide +kernel
theorem dX12_block_33 : decode cX12_block 33 = .ok (.ireturn, 1) := by decide +kernel
theorem dX12_block_34 : decode cX12_block 34 = .ok (.aload_n 0, 1) := by decide +kernel
theorem dX12_block_35 : decode cX12_block 35 = .ok (.getfield 68, 3) := by decide +kernel
theorem dX12_block_38 : decode cX12_block 38 = .ok (.iload_n 1, 1) := by decide +kernel
theorem dX12_block_39 : decode cX12_block 39 = .ok (.aload_n 0, 1) := by decide +kernel
theorem dX12_block_40 : decode cX12_block 40 = .ok (.getfield 314, 3) := by decide +kernel
theorem dX12_block_43 : decode cX12_block 43 = .ok (.iastore, 1) := by decide +kernel
theorem dX12_block_44 : decode cX12_block 44 = .ok (.aload_n 0, 1) := by decide +kernel
theorem dX12_block_45 : decode cX12_block 45 = .ok (.bipush 125, 2) := by decide +kernel
theorem dX12_block_47 : decode cX12_block 47 = .ok (.invokevirtual 404, 3) := by decide +kernel
theorem dX12_block_50 : decode cX12_block 50 = .ok (.ireturn, 1) := by decide +kernel
def o_X12_block_L16 (N : Nat) (fo_statement : (St → Option (Int × St))) (K6 : (St → Option (Int × St))) : Nat → St → Option (Int × St)
  | 0, _ => none
  | n9 + 1, t5 =>
    bdI (f_X12_isSign N 125 t5) fun v8 t7 =>
    cmpI v8 0 (if v8 = 0 then (bdI (fo_statement t7) fun v10 t9 =>
    cmpI v10 0 (if v10 = 0 then (boI 0 (some (0, t9)))
    else (o_X12_block_L16 N fo_statement K6 n9 t9)))
    else (K6 t7))
def o_X12_block (N : Nat) (fo_statement : (St → Option (Int × St))) (t : St) : Option (Int × St) :=
    lt1 (t.1 200 33) fun v1 =>
    bdI (f_X12_opensBy N 123 t) fun v3 t2 =>
    cmpI v3 0 (if v3 = 0 then (boI 0 (some (0, t2)))
    else (o_X12_block_L16 N fo_statement (fun (t11 : St) => lt1 (t11.1 200 33) fun v12 =>
    ixI v1 10100 (lt1 (pI t11 32 v1.toNat v12) fun t13 =>
    bdI (f_X12_closesBy N 125 t13) fun v15 t14 =>
    boI v15 (some (v15, t14)))) N t2))
set_option maxHeartbeats 4000000 in
set_option maxRecDepth 100000 in
theorem t_o_X12_block_L16 {p : Program} {l : Launch} {e : Env} {s : State} {m : MethodId} {args : Array Value} {below : List Frame} {meth : Method} {c : Code} {E : cE} {A : Nat → Prop} {r : Nat → Nat} {mc ms : Nat} {z : Int × St} {N : Nat} {D9 : Nat} {fo_statement : (St → Option (Int × St))} {K6 : (St → Option (Int × St))} {y4 : Int} (X : gX p s m meth c cX12_block 2 (some .boolean) yX12_block args E A) (ho_statement : ∀ (t : St) (z : Int × St), fo_statement t = some z → cM l E yX12_statement cX12_statement 1 (some .boolean) (rmS_block D9) [.ref (r 200)] (gW E r shM t) (gqI E (gW E r shM) z)) (hK6 : ∀ (t9 : St), K6 t9 = some z → gP p l e (rmS_block (D9 + 1)) s m args below meth c E A 2 (MQ below ((gqI E (gW E r shM) z) A) args s mc ms A) (gW E r shM) 34 [(0, .ref (r 200)), (1, iv y4)] [] t9) : ∀ (n9 : Nat) (t5 : St), o_X12_block_L16 N fo_statement K6 n9 t5 = some z → gP p l e (rmS_block (D9 + 1)) s m args below meth c E A 2 (MQ below ((gqI E (gW E r shM) z) A) args s mc ms A) (gW E r shM) 16 [(0, .ref (r 200)), (1, iv y4)] [] t5 := by
  intro n9
  induction n9 with
  | zero => intro t5 h; cases h
  | succ n9 ih =>
    intro t5 h
    unfold o_X12_block_L16 at h
    refine g_aload_n X dX12_block_16 0 rfl ?_
    refine g_bipush X dX12_block_17 (by decide) ?_
    refine g_callI (rest := []) X (fun u9 h9 => cp_X12_isSign l E r N 125 t5 u9 h9) yy_X12_isSign yi_X12_isSign wdM_RX12_332 0 12 (gW_at oM) rfl rfl rfl (Nat.le_of_ble_eq_true rfl) dX12_block_19 ⟨by show 0 + 1 ≤ D9 + 1 + 213; omega, by show 8 + (2 + 11) + 0 ≤ 60 * (D9 + 1) + 12350; omega⟩ ⟨rfl, rfl⟩ h (fun v8 t7 h => ?_)
    refine g_if_ne (tgt := 34) X dX12_block_22 (by decide) h (fun h => ?_) (fun h => ?_)
    · exact g_sub (lv' := [(0, .ref (r 200)), (1, iv y4)]) [0, 1] rfl (hK6 t7 h)
    · refine g_aload_n X dX12_block_25 0 rfl ?_
      refine g_callI (rest := []) X (fun u9 h9 => ho_statement t7 u9 h9) yy_X12_statement yi_X12_statement wdM_RX12_401 0 12 (gW_at oM) rfl rfl rfl (Nat.le_of_ble_eq_true rfl) dX12_block_26 ⟨by show D9 + 213 + 1 ≤ D9 + 1 + 213; omega, by show 8 + (1 + 11) + (60 * D9 + 12350) ≤ 60 * (D9 + 1) + 12350; omega⟩ ⟨rfl, rfl⟩ h (fun v10 t9 h => ?_)
      refine g_if_ne (tgt := 16) X dX12_block_29 (by decide) h (fun h => ?_) (fun h => ?_)
      · exact g_sub (lv' := [(0, .ref (r 200)), (1, iv y4)]) [0, 1] rfl (ih t9 h)
      · refine g_iconst X dX12_block_32 ?_
        exact g_zret X h dX12_block_33
set_option maxHeartbeats 4000000 in
set_option maxRecDepth 100000 in
theorem b_o_X12_block {p : Program} {l : Launch} {e : Env} {s : State} {m : MethodId} {args : Array Value} {below : List Frame} {meth : Method} {c : Code} {E : cE} {A : Nat → Prop} {r : Nat → Nat} {mc ms : Nat} {z : Int × St} {N : Nat} {D9 : Nat} {fo_statement : (St → Option (Int × St))} (ho_statement : ∀ (t : St) (z : Int × St), fo_statement t = some z → cM l E yX12_statement cX12_statement 1 (some .boolean) (rmS_block D9) [.ref (r 200)] (gW E r shM t) (gqI E (gW E r shM) z)) {t : St} (X : gX p s m meth c cX12_block 2 (some .boolean) yX12_block args E A) (h : o_X12_block N fo_statement t = some z) : gP p l e (rmS_block (D9 + 1)) s m args below meth c E A 2 (MQ below ((gqI E (gW E r shM) z) A) args s mc ms A) (gW E r shM) 0 [(0, .ref (r 200))] [] t := by
  unfold o_X12_block at h
  refine g_aload_n X dX12_block_0 0 rfl ?_
  refine g_getI X fM_33 rfl dX12_block_1 h (fun v1 h => ?_)
  refine g_istore_n (lv' := [(1, iv v1), (0, .ref (r 200))]) X dX12_block_4 rfl (by decide) rfl ?_
  refine g_aload_n X dX12_block_5 1 rfl ?_
  refine g_bipush X dX12_block_6 (by decide) ?_
  refine g_callI (rest := []) X (fun u9 h9 => cp_X12_opensBy l E r N 123 t u9 h9) yy_X12_opensBy yi_X12_opensBy wdM_RX12_398 0 12 (gW_at oM) rfl rfl rfl (Nat.le_of_ble_eq_true rfl) dX12_block_8 ⟨by show 10 + 1 ≤ D9 + 1 + 213; omega, by show 8 + (2 + 11) + 289 ≤ 60 * (D9 + 1) + 12350; omega⟩ ⟨rfl, rfl⟩ h (fun v3 t2 h => ?_)
  refine g_if_ne (tgt := 16) X dX12_block_11 (by decide) h (fun h => ?_) (fun h => ?_)
  · refine g_sub (lv' := [(0, .ref (r 200)), (1, iv v1)]) [1, 0] rfl (t_o_X12_block_L16 X ho_statement (fun t11 h => ?_) N t2 h)
    · refine g_aload_n X dX12_block_34 0 rfl ?_
      refine g_getR X fM_32 rfl dX12_block_35 ?_
      refine g_iload_n X dX12_block_38 1 rfl ?_
      refine g_aload_n X dX12_block_39 0 rfl ?_
      refine g_getI X fM_33 rfl dX12_block_40 h (fun v12 h => ?_)
      refine g_iast X aM_32 dX12_block_43 h (fun t13 h => ?_)
      refine g_aload_n X dX12_block_44 0 rfl ?_
      refine g_bipush X dX12_block_45 (by decide) ?_
      refine g_callI (rest := []) X (fun u9 h9 => cp_X12_closesBy l E r N 125 t13 u9 h9) yy_X12_closesBy yi_X12_closesBy wdM_RX12_404 0 12 (gW_at oM) rfl rfl rfl (Nat.le_of_ble_eq_true rfl) dX12_block_47 ⟨by show 10 + 1 ≤ D9 + 1 + 213; omega, by show 8 + (2 + 11) + 289 ≤ 60 * (D9 + 1) + 12350; omega⟩ ⟨rfl, rfl⟩ h (fun v15 t14 h => ?_)
      exact g_zret X h dX12_block_50
  · refine g_iconst X dX12_block_14 ?_
    exact g_zret X h dX12_block_15
set_option maxHeartbeats 4000000 in
set_option maxRecDepth 100000 in
theorem cpo_X12_block (l : Launch) (E : cE) (r : Nat → Nat) (N : Nat) (D9 : Nat) (fo_statement : (St → Option (Int × St))) (ho_statement : ∀ (t : St) (z : Int × St), fo_statement t = some z → cM l E yX12_statement cX12_statement 1 (some .boolean) (rmS_block D9) [.ref (r 200)] (gW E r shM t) (gqI E (gW E r shM) z)) (t : St) (z : Int × St) (h : o_X12_block N fo_statement t = some z) : cM l E yX12_block cX12_block 2 (some .boolean) (rmS_block (D9 + 1)) [.ref (r 200)] (gW E r shM t) (gqI E (gW E r shM) z) := by
  refine g_of (w := gW E r shM) (by decide) (Nat.le_of_ble_eq_true rfl) ?_
  intro p e s m below meth c A X
  exact g_sub (lv' := [(0, .ref (r 200))]) [0] rfl (b_o_X12_block ho_statement X h)
theorem dX12_statement_0 : decode cX12_statement 0 = .ok (.aload_n 0, 1) := by decide +kernel
theorem dX12_statement_1 : decode cX12_statement 1 = .ok (.bipush 7, 2) := by decide +kernel
theorem dX12_statement_3 : decode cX12_statement 3 = .ok (.invokevirtual 326, 3) := by decide +kernel
theorem dX12_statement_6 : decode cX12_statement 6 = .ok (.ifCond .eq 35, 3) := by decide +kernel
theorem dX12_statement_9 : decode cX12_statement 9 = .ok (.aload_n 0, 1) := by decide +kernel
theorem dX12_statement_10 : decode cX12_statement 10 = .ok (.bipush 7, 2) := by decide +kernel
theorem dX12_statement_12 : decode cX12_statement 12 = .ok (.invokevirtual 378, 3) := by decide +kernel
theorem dX12_statement_15 : decode cX12_statement 15 = .ok (.ifCond .eq 24, 3) := by decide +kernel
theorem dX12_statement_18 : decode cX12_statement 18 = .ok (.aload_n 0, 1) := by decide +kernel
theorem dX12_statement_19 : decode cX12_statement 19 = .ok (.iconst 2, 1) := by decide +kernel
theorem dX12_statement_20 : decode cX12_statement 20 = .ok (.invokevirtual 381, 3) := by decide +kernel
theorem dX12_statement_23 : decode cX12_statement 23 = .ok (.ifCond .eq 16, 3) := by decide +kernel
theorem dX12_statement_26 : decode cX12_statement 26 = .ok (.aload_n 0, 1) := by decide +kernel
theorem dX12_statement_27 : decode cX12_statement 27 = .ok (.bipush 59, 2) := by decide +kernel
theorem dX12_statement_29 : decode cX12_statement 29 = .ok (.invokevirtual 344, 3) := by decide +kernel
theorem dX12_statement_32 : decode cX12_statement 32 = .ok (.ifCond .eq 7, 3) := by decide +kernel
theorem dX12_statement_35 : decode cX12_statement 35 = .ok (.iconst 1, 1) := by decide +kernel
theorem dX12_statement_36 : decode cX12_statement 36 = .ok (.goto 4, 3) := by decide +kernel
theorem dX12_statement_39 : decode cX12_statement 39 = .ok (.iconst 0, 1) := by decide +kernel
theorem dX12_statement_40 : decode cX12_statement 40 = .ok (.ireturn, 1) := by decide +kernel
theorem dX12_statement_41 : decode cX12_statement 41 = .ok (.aload_n 0, 1) := by decide +kernel
theorem dX12_statement_42 : decode cX12_statement 42 = .ok (.bipush 8, 2) := by decide +kernel
theorem dX12_statement_44 : decode cX12_statement 44 = .ok (.invokevirtual 326, 3) := by decide +kernel
theorem dX12_statement_47 : decode cX12_statement 47 = .ok (.ifCond .eq 35, 3) := by decide +kernel
theorem dX12_statement_50 : decode cX12_statement 50 = .ok (.aload_n 0, 1) := by decide +kernel
theorem dX12_statement_51 : decode cX12_statement 51 = .ok (.bipush 8, 2) := by decide +kernel
theorem dX12_statement_53 : decode cX12_statement 53 = .ok (.invokevirtual 378, 3) := by decide +kernel
theorem dX12_statement_56 : decode cX12_statement 56 = .ok (.ifCond .eq 24, 3) := by decide +kernel
theorem dX12_statement_59 : decode cX12_statement 59 = .ok (.aload_n 0, 1) := by decide +kernel
theorem dX12_statement_60 : decode cX12_statement 60 = .ok (.iconst 1, 1) := by decide +kernel
theorem dX12_statement_61 : decode cX12_statement 61 = .ok (.bipush 64, 2) := by decide +kernel
theorem dX12_statement_63 : decode cX12_statement 63 = .ok (.invokevirtual 384, 3) := by decide +kernel
theorem dX12_statement_66 : decode cX12_statement 66 = .ok (.ifCond .eq 14, 3) := by decide +kernel
theorem dX12_statement_69 : decode cX12_statement 69 = .ok (.aload_n 0, 1) := by decide +kernel
theorem dX12_statement_70 : decode cX12_statement 70 = .ok (.invokevirtual 389, 3) := by decide +kernel
theorem dX12_statement_73 : decode cX12_statement 73 = .ok (.ifCond .eq 7, 3) := by decide +kernel
theorem dX12_statement_76 : decode cX12_statement 76 = .ok (.iconst 1, 1) := by decide +kernel
theorem dX12_statement_77 : decode cX12_statement 77 = .ok (.goto 4, 3) := by decide +kernel
theorem dX12_statement_80 : decode cX12_statement 80 = .ok (.iconst 0, 1) := by decide +kernel
theorem dX12_statement_81 : decode cX12_statement 81 = .ok (.ireturn, 1) := by decide +kernel
theorem dX12_statement_82 : decode cX12_statement 82 = .ok (.aload_n 0, 1) := by decide +kernel
theorem dX12_statement_83 : decode cX12_statement 83 = .ok (.bipush 9, 2) := by decide +kernel
theorem dX12_statement_85 : decode cX12_statement 85 = .ok (.invokevirtual 326, 3) := by decide +kernel
theorem dX12_statement_88 : decode cX12_statement 88 = .ok (.ifCond .eq 51, 3) := by decide +kernel
theorem dX12_statement_91 : decode cX12_statement 91 = .ok (.aload_n 0, 1) := by decide +kernel
theorem dX12_statement_92 : decode cX12_statement 92 = .ok (.bipush 9, 2) := by decide +kernel
theorem dX12_statement_94 : decode cX12_statement 94 = .ok (.invokevirtual 378, 3) := by decide +kernel
theorem dX12_statement_97 : decode cX12_statement 97 = .ok (.ifCond .eq 40, 3) := by decide +kernel
theorem dX12_statement_100 : decode cX12_statement 100 = .ok (.aload_n 0, 1) := by decide +kernel
theorem dX12_statement_101 : decode cX12_statement 101 = .ok (.invokevirtual 407, 3) := by decide +kernel
theorem dX12_statement_104 : decode cX12_statement 104 = .ok (.ifCond .eq 33, 3) := by decide +kernel
theorem dX12_statement_107 : decode cX12_statement 107 = .ok (.aload_n 0, 1) := by decide +kernel
theorem dX12_statement_108 : decode cX12_statement 108 = .ok (.bipush 10, 2) := by decide +kernel
theorem dX12_statement_110 : decode cX12_statement 110 = .ok (.invokevirtual 378, 3) := by decide +kernel
theorem dX12_statement_113 : decode cX12_statement 113 = .ok (.ifCond .eq 24, 3) := by decide +kernel
theorem dX12_statement_116 : decode cX12_statement 116 = .ok (.aload_n 0, 1) := by decide +kernel
theorem dX12_statement_117 : decode cX12_statement 117 = .ok (.iconst 1, 1) := by decide +kernel
theorem dX12_statement_118 : decode cX12_statement 118 = .ok (.bipush 64, 2) := by decide +kernel
theorem dX12_statement_120 : decode cX12_statement 120 = .ok (.invokevirtual 384, 3) := by decide +kernel
theorem dX12_statement_123 : decode cX12_statement 123 = .ok (.ifCond .eq 14, 3) := by decide +kernel
theorem dX12_statement_126 : decode cX12_statement 126 = .ok (.aload_n 0, 1) := by decide +kernel
theorem dX12_statement_127 : decode cX12_statement 127 = .ok (.invokevirtual 389, 3) := by decide +kernel
theorem dX12_statement_130 : decode cX12_statement 130 = .ok (.ifCond .eq 7, 3) := by decide +kernel
theorem dX12_statement_133 : decode cX12_statement 133 = .ok (.iconst 1, 1) := by decide +kernel
theorem dX12_statement_134 : decode cX12_statement 134 = .ok (.goto 4, 3) := by decide +kernel
theorem dX12_statement_137 : decode cX12_statement 137 = .ok (.iconst 0, 1) := by decide +kernel
theorem dX12_statement_138 : decode cX12_statement 138 = .ok (.ireturn, 1) := by decide +kernel
theorem dX12_statement_139 : decode cX12_statement 139 = .ok (.aload_n 0, 1) := by decide +kernel
theorem dX12_statement_140 : decode cX12_statement 140 = .ok (.bipush 13, 2) := by decide +kernel
theorem dX12_statement_142 : decode cX12_statement 142 = .ok (.invokevirtual 326, 3) := by decide +kernel
theorem dX12_statement_145 : decode cX12_statement 145 = .ok (.ifCond .eq 32, 3) := by decide +kernel
theorem dX12_statement_148 : decode cX12_statement 148 = .ok (.aload_n 0, 1) := by decide +kernel
theorem dX12_statement_149 : decode cX12_statement 149 = .ok (.bipush 13, 2) := by decide +kernel
theorem dX12_statement_151 : decode cX12_statement 151 = .ok (.invokevirtual 378, 3) := by decide +kernel
theorem dX12_statement_154 : decode cX12_statement 154 = .ok (.ifCond .eq 21, 3) := by decide +kernel
theorem dX12_statement_157 : decode cX12_statement 157 = .ok (.aload_n 0, 1) := by decide +kernel
theorem dX12_statement_158 : decode cX12_statement 158 = .ok (.invokevirtual 410, 3) := by decide +kernel
theorem dX12_statement_161 : decode cX12_statement 161 = .ok (.ifCond .eq 14, 3) := by decide +kernel
theorem dX12_statement_164 : decode cX12_statement 164 = .ok (.aload_n 0, 1) := by decide +kernel
theorem dX12_statement_165 : decode cX12_statement 165 = .ok (.invokevirtual 389, 3) := by decide +kernel
theorem dX12_statement_168 : decode cX12_statement 168 = .ok (.ifCond .eq 7, 3) := by decide +kernel
theorem dX12_statement_171 : decode cX12_statement 171 = .ok (.iconst 1, 1) := by decide +kernel
theorem dX12_statement_172 : decode cX12_statement 172 = .ok (.goto 4, 3) := by decide +kernel
theorem dX12_statement_175 : decode cX12_statement 175 = .ok (.iconst 0, 1) := by decide +kernel
theorem dX12_statement_176 : decode cX12_statement 176 = .ok (.ireturn, 1) := by decide +kernel
theorem dX12_statement_177 : decode cX12_statement 177 = .ok (.aload_n 0, 1) := by decide +kernel
theorem dX12_statement_178 : decode cX12_statement 178 = .ok (.bipush 11, 2) := by decide +kernel
theorem dX12_statement_180 : decode cX12_statement 180 = .ok (.invokevirtual 326, 3) := by decide +kernel
theorem dX12_statement_183 : decode cX12_statement 183 = .ok (.ifCond .ne 25, 3) := by decide +kernel
theorem dX12_statement_186 : decode cX12_statement 186 = .ok (.aload_n 0, 1) := by decide +kernel
theorem dX12_statement_187 : decode cX12_statement 187 = .ok (.invokevirtual 395, 3) := by decide +kernel
theorem dX12_statement_190 : decode cX12_statement 190 = .ok (.ifCond .eq 16, 3) := by decide +kernel
theorem dX12_statement_193 : decode cX12_statement 193 = .ok (.aload_n 0, 1) := by decide +kernel
theorem dX12_statement_194 : decode cX12_statement 194 = .ok (.bipush 59, 2) := by decide +kernel
theorem dX12_statement_196 : decode cX12_statement 196 = .ok (.invokevirtual 344, 3) := by decide +kernel
theorem dX12_statement_199 : decode cX12_statement 199 = .ok (.ifCond .eq 7, 3) := by decide +kernel
theorem dX12_statement_202 : decode cX12_statement 202 = .ok (.iconst 1, 1) := by decide +kernel
theorem dX12_statement_203 : decode cX12_statement 203 = .ok (.goto 4, 3) := by decide +kernel
theorem dX12_statement_206 : decode cX12_statement 206 = .ok (.iconst 0, 1) := by decide +kernel
theorem dX12_statement_207 : decode cX12_statement 207 = .ok (.ireturn, 1) := by decide +kernel
theorem dX12_statement_208 : decode cX12_statement 208 = .ok (.aload_n 0, 1) := by decide +kernel
theorem dX12_statement_209 : decode cX12_statement 209 = .ok (.bipush 11, 2) := by decide +kernel
theorem dX12_statement_211 : decode cX12_statement 211 = .ok (.invokevirtual 378, 3) := by decide +kernel
theorem dX12_statement_214 : decode cX12_statement 214 = .ok (.ifCond .eq 17, 3) := by decide +kernel
theorem dX12_statement_217 : decode cX12_statement 217 = .ok (.aload_n 0, 1) := by decide +kernel
theorem dX12_statement_218 : decode cX12_statement 218 = .ok (.invokevirtual 407, 3) := by decide +kernel
theorem dX12_statement_221 : decode cX12_statement 221 = .ok (.ifCond .eq 10, 3) := by decide +kernel
theorem dX12_statement_224 : decode cX12_statement 224 = .ok (.aload_n 0, 1) := by decide +kernel
theorem dX12_statement_225 : decode cX12_statement 225 = .ok (.invokevirtual 389, 3) := by decide +kernel
theorem dX12_statement_228 : decode cX12_statement 228 = .ok (.ifCond .ne 5, 3) := by decide +kernel
theorem dX12_statement_231 : decode cX12_statement 231 = .ok (.iconst 0, 1) := by decide +kernel
theorem dX12_statement_232 : decode cX12_statement 232 = .ok (.ireturn, 1) := by decide +kernel
theorem dX12_statement_233 : decode cX12_statement 233 = .ok (.aload_n 0, 1) := by decide +kernel
theorem dX12_statement_234 : decode cX12_statement 234 = .ok (.bipush 12, 2) := by decide +kernel
theorem dX12_statement_236 : decode cX12_statement 236 = .ok (.invokevirtual 326, 3) := by decide +kernel
theorem dX12_statement_239 : decode cX12_statement 239 = .ok (.ifCond .eq 19, 3) := by decide +kernel
theorem dX12_statement_242 : decode cX12_statement 242 = .ok (.aload_n 0, 1) := by decide +kernel
theorem dX12_statement_243 : decode cX12_statement 243 = .ok (.bipush 12, 2) := by decide +kernel
theorem dX12_statement_245 : decode cX12_statement 245 = .ok (.invokevirtual 378, 3) := by decide +kernel
theorem dX12_statement_248 : decode cX12_statement 248 = .ok (.ifCond .eq 14, 3) := by decide +kernel
theorem dX12_statement_251 : decode cX12_statement 251 = .ok (.aload_n 0, 1) := by decide +kernel
theorem dX12_statement_252 : decode cX12_statement 252 = .ok (.invokevirtual 389, 3) := by decide +kernel
theorem dX12_statement_255 : decode cX12_statement 255 = .ok (.ifCond .eq 7, 3) := by decide +kernel
theorem dX12_statement_258 : decode cX12_statement 258 = .ok (.iconst 1, 1) := by decide +kernel
theorem dX12_statement_259 : decode cX12_statement 259 = .ok (.goto 4, 3) := by decide +kernel
theorem dX12_statement_262 : decode cX12_statement 262 = .ok (.iconst 0, 1) := by decide +kernel
theorem dX12_statement_263 : decode cX12_statement 263 = .ok (.ireturn, 1) := by decide +kernel
def o_X12_statement (N : Nat) (fo_block : (St → Option (Int × St))) (t : St) : Option (Int × St) :=
    bdI (f_X12_isKey N 7 t) fun v2 t1 =>
    cmpI v2 0 (if v2 = 0 then (bdI (f_X12_isKey N 8 t1) fun v4 t3 =>
    cmpI v4 0 (if v4 = 0 then (bdI (f_X12_isKey N 9 t3) fun v6 t5 =>
    cmpI v6 0 (if v6 = 0 then (bdI (f_X12_isKey N 13 t5) fun v8 t7 =>
    cmpI v8 0 (if v8 = 0 then (bdI (f_X12_isKey N 11 t7) fun v10 t9 =>
    cmpI v10 0 (if v10 = 0 then (bdI (f_X12_stepText N t9) fun v24 t23 =>
    cmpI v24 0 (if v24 = 0 then (boI 0 (some (0, t23)))
    else (bdI (f_X12_sign N 59 t23) fun v26 t25 =>
    cmpI v26 0 (if v26 = 0 then (boI 0 (some (0, t25)))
    else (boI 1 (some (1, t25)))))))
    else (bdI (f_X12_key N 11 t9) fun v12 t11 =>
    cmpI v12 0 (if v12 = 0 then (boI 0 (some (0, t11)))
    else (bdI (f_X12_condition N t11) fun v14 t13 =>
    cmpI v14 0 (if v14 = 0 then (boI 0 (some (0, t13)))
    else (bdI (fo_block t13) fun v16 t15 =>
    cmpI v16 0 (if v16 = 0 then (boI 0 (some (0, t15)))
    else (bdI (f_X12_isKey N 12 t15) fun v18 t17 =>
    cmpI v18 0 (if v18 = 0 then (boI 1 (some (1, t17)))
    else (bdI (f_X12_key N 12 t17) fun v20 t19 =>
    cmpI v20 0 (if v20 = 0 then (boI 0 (some (0, t19)))
    else (bdI (fo_block t19) fun v22 t21 =>
    cmpI v22 0 (if v22 = 0 then (boI 0 (some (0, t21)))
    else (boI 1 (some (1, t21)))))))))))))))))
    else (bdI (f_X12_key N 13 t7) fun v28 t27 =>
    cmpI v28 0 (if v28 = 0 then (boI 0 (some (0, t27)))
    else (bdI (f_X12_whoText N t27) fun v30 t29 =>
    cmpI v30 0 (if v30 = 0 then (boI 0 (some (0, t29)))
    else (bdI (fo_block t29) fun v32 t31 =>
    cmpI v32 0 (if v32 = 0 then (boI 0 (some (0, t31)))
    else (boI 1 (some (1, t31)))))))))))
    else (bdI (f_X12_key N 9 t5) fun v34 t33 =>
    cmpI v34 0 (if v34 = 0 then (boI 0 (some (0, t33)))
    else (bdI (f_X12_condition N t33) fun v36 t35 =>
    cmpI v36 0 (if v36 = 0 then (boI 0 (some (0, t35)))
    else (bdI (f_X12_key N 10 t35) fun v38 t37 =>
    cmpI v38 0 (if v38 = 0 then (boI 0 (some (0, t37)))
    else (bdI (f_X12_number N 1 64 t37) fun v40 t39 =>
    cmpI v40 0 (if v40 = 0 then (boI 0 (some (0, t39)))
    else (bdI (fo_block t39) fun v42 t41 =>
    cmpI v42 0 (if v42 = 0 then (boI 0 (some (0, t41)))
    else (boI 1 (some (1, t41)))))))))))))))
    else (bdI (f_X12_key N 8 t3) fun v44 t43 =>
    cmpI v44 0 (if v44 = 0 then (boI 0 (some (0, t43)))
    else (bdI (f_X12_number N 1 64 t43) fun v46 t45 =>
    cmpI v46 0 (if v46 = 0 then (boI 0 (some (0, t45)))
    else (bdI (fo_block t45) fun v48 t47 =>
    cmpI v48 0 (if v48 = 0 then (boI 0 (some (0, t47)))
    else (boI 1 (some (1, t47)))))))))))
    else (bdI (f_X12_key N 7 t1) fun v50 t49 =>
    cmpI v50 0 (if v50 = 0 then (boI 0 (some (0, t49)))
    else (bdI (f_X12_knownName N 2 t49) fun v52 t51 =>
    cmpI v52 0 (if v52 = 0 then (boI 0 (some (0, t51)))
    else (bdI (f_X12_sign N 59 t51) fun v54 t53 =>
    cmpI v54 0 (if v54 = 0 then (boI 0 (some (0, t53)))
    else (boI 1 (some (1, t53))))))))))
set_option maxHeartbeats 4000000 in
set_option maxRecDepth 100000 in
theorem b_o_X12_statement {p : Program} {l : Launch} {e : Env} {s : State} {m : MethodId} {args : Array Value} {below : List Frame} {meth : Method} {c : Code} {E : cE} {A : Nat → Prop} {r : Nat → Nat} {mc ms : Nat} {z : Int × St} {N : Nat} {D9 : Nat} {fo_block : (St → Option (Int × St))} (ho_block : ∀ (t : St) (z : Int × St), fo_block t = some z → cM l E yX12_block cX12_block 2 (some .boolean) (rmS_block D9) [.ref (r 200)] (gW E r shM t) (gqI E (gW E r shM) z)) {t : St} (X : gX p s m meth c cX12_statement 1 (some .boolean) yX12_statement args E A) (h : o_X12_statement N fo_block t = some z) : gP p l e (rmS_block (D9 + 1)) s m args below meth c E A 1 (MQ below ((gqI E (gW E r shM) z) A) args s mc ms A) (gW E r shM) 0 [(0, .ref (r 200))] [] t := by
  unfold o_X12_statement at h
  refine g_aload_n X dX12_statement_0 0 rfl ?_
  refine g_bipush X dX12_statement_1 (by decide) ?_
  refine g_callI (rest := []) X (fun u9 h9 => cp_X12_isKey l E r N 7 t u9 h9) yy_X12_isKey yi_X12_isKey wdM_RX12_326 0 12 (gW_at oM) rfl rfl rfl (Nat.le_of_ble_eq_true rfl) dX12_statement_3 ⟨by show 0 + 1 ≤ D9 + 1 + 213; omega, by show 8 + (2 + 11) + 0 ≤ 60 * (D9 + 1) + 12350; omega⟩ ⟨rfl, rfl⟩ h (fun v2 t1 h => ?_)
  refine g_if_eq (tgt := 41) X dX12_statement_6 (by decide) h (fun h => ?_) (fun h => ?_)
  · refine g_aload_n X dX12_statement_41 0 rfl ?_
    refine g_bipush X dX12_statement_42 (by decide) ?_
    refine g_callI (rest := []) X (fun u9 h9 => cp_X12_isKey l E r N 8 t1 u9 h9) yy_X12_isKey yi_X12_isKey wdM_RX12_326 0 12 (gW_at oM) rfl rfl rfl (Nat.le_of_ble_eq_true rfl) dX12_statement_44 ⟨by show 0 + 1 ≤ D9 + 1 + 213; omega, by show 8 + (2 + 11) + 0 ≤ 60 * (D9 + 1) + 12350; omega⟩ ⟨rfl, rfl⟩ h (fun v4 t3 h => ?_)
    refine g_if_eq (tgt := 82) X dX12_statement_47 (by decide) h (fun h => ?_) (fun h => ?_)
    · refine g_aload_n X dX12_statement_82 0 rfl ?_
      refine g_bipush X dX12_statement_83 (by decide) ?_
      refine g_callI (rest := []) X (fun u9 h9 => cp_X12_isKey l E r N 9 t3 u9 h9) yy_X12_isKey yi_X12_isKey wdM_RX12_326 0 12 (gW_at oM) rfl rfl rfl (Nat.le_of_ble_eq_true rfl) dX12_statement_85 ⟨by show 0 + 1 ≤ D9 + 1 + 213; omega, by show 8 + (2 + 11) + 0 ≤ 60 * (D9 + 1) + 12350; omega⟩ ⟨rfl, rfl⟩ h (fun v6 t5 h => ?_)
      refine g_if_eq (tgt := 139) X dX12_statement_88 (by decide) h (fun h => ?_) (fun h => ?_)
      · refine g_aload_n X dX12_statement_139 0 rfl ?_
        refine g_bipush X dX12_statement_140 (by decide) ?_
        refine g_callI (rest := []) X (fun u9 h9 => cp_X12_isKey l E r N 13 t5 u9 h9) yy_X12_isKey yi_X12_isKey wdM_RX12_326 0 12 (gW_at oM) rfl rfl rfl (Nat.le_of_ble_eq_true rfl) dX12_statement_142 ⟨by show 0 + 1 ≤ D9 + 1 + 213; omega, by show 8 + (2 + 11) + 0 ≤ 60 * (D9 + 1) + 12350; omega⟩ ⟨rfl, rfl⟩ h (fun v8 t7 h => ?_)
        refine g_if_eq (tgt := 177) X dX12_statement_145 (by decide) h (fun h => ?_) (fun h => ?_)
        · refine g_aload_n X dX12_statement_177 0 rfl ?_
          refine g_bipush X dX12_statement_178 (by decide) ?_
          refine g_callI (rest := []) X (fun u9 h9 => cp_X12_isKey l E r N 11 t7 u9 h9) yy_X12_isKey yi_X12_isKey wdM_RX12_326 0 12 (gW_at oM) rfl rfl rfl (Nat.le_of_ble_eq_true rfl) dX12_statement_180 ⟨by show 0 + 1 ≤ D9 + 1 + 213; omega, by show 8 + (2 + 11) + 0 ≤ 60 * (D9 + 1) + 12350; omega⟩ ⟨rfl, rfl⟩ h (fun v10 t9 h => ?_)
          refine g_if_ne (tgt := 208) X dX12_statement_183 (by decide) h (fun h => ?_) (fun h => ?_)
          · refine g_aload_n X dX12_statement_208 0 rfl ?_
            refine g_bipush X dX12_statement_209 (by decide) ?_
            refine g_callI (rest := []) X (fun u9 h9 => cp_X12_key l E r N 11 t9 u9 h9) yy_X12_key yi_X12_key wdM_RX12_378 0 12 (gW_at oM) rfl rfl rfl (Nat.le_of_ble_eq_true rfl) dX12_statement_211 ⟨by show 9 + 1 ≤ D9 + 1 + 213; omega, by show 8 + (2 + 11) + 268 ≤ 60 * (D9 + 1) + 12350; omega⟩ ⟨rfl, rfl⟩ h (fun v12 t11 h => ?_)
            refine g_if_eq (tgt := 231) X dX12_statement_214 (by decide) h (fun h => ?_) (fun h => ?_)
            · refine g_iconst X dX12_statement_231 ?_
              exact g_zret X h dX12_statement_232
            · refine g_aload_n X dX12_statement_217 0 rfl ?_
              refine g_callI (rest := []) X (fun u9 h9 => cp_X12_condition l E r N t11 u9 h9) yy_X12_condition yi_X12_condition wdM_RX12_407 0 12 (gW_at oM) rfl rfl rfl (Nat.le_of_ble_eq_true rfl) dX12_statement_218 ⟨by show 212 + 1 ≤ D9 + 1 + 213; omega, by show 8 + (1 + 11) + 12330 ≤ 60 * (D9 + 1) + 12350; omega⟩ ⟨rfl, rfl⟩ h (fun v14 t13 h => ?_)
              refine g_if_eq (tgt := 231) X dX12_statement_221 (by decide) h (fun h => ?_) (fun h => ?_)
              · refine g_iconst X dX12_statement_231 ?_
                exact g_zret X h dX12_statement_232
              · refine g_aload_n X dX12_statement_224 0 rfl ?_
                refine g_callI (rest := []) X (fun u9 h9 => ho_block t13 u9 h9) yy_X12_block yi_X12_block wdM_RX12_389 0 12 (gW_at oM) rfl rfl rfl (Nat.le_of_ble_eq_true rfl) dX12_statement_225 ⟨by show D9 + 213 + 1 ≤ D9 + 1 + 213; omega, by show 8 + (2 + 11) + (60 * D9 + 12350) ≤ 60 * (D9 + 1) + 12350; omega⟩ ⟨rfl, rfl⟩ h (fun v16 t15 h => ?_)
                refine g_if_ne (tgt := 233) X dX12_statement_228 (by decide) h (fun h => ?_) (fun h => ?_)
                · refine g_aload_n X dX12_statement_233 0 rfl ?_
                  refine g_bipush X dX12_statement_234 (by decide) ?_
                  refine g_callI (rest := []) X (fun u9 h9 => cp_X12_isKey l E r N 12 t15 u9 h9) yy_X12_isKey yi_X12_isKey wdM_RX12_326 0 12 (gW_at oM) rfl rfl rfl (Nat.le_of_ble_eq_true rfl) dX12_statement_236 ⟨by show 0 + 1 ≤ D9 + 1 + 213; omega, by show 8 + (2 + 11) + 0 ≤ 60 * (D9 + 1) + 12350; omega⟩ ⟨rfl, rfl⟩ h (fun v18 t17 h => ?_)
                  refine g_if_eq (tgt := 258) X dX12_statement_239 (by decide) h (fun h => ?_) (fun h => ?_)
                  · refine g_iconst X dX12_statement_258 ?_
                    refine g_goto (tgt := 263) X dX12_statement_259 (by decide) ?_
                    exact g_zret X h dX12_statement_263
                  · refine g_aload_n X dX12_statement_242 0 rfl ?_
                    refine g_bipush X dX12_statement_243 (by decide) ?_
                    refine g_callI (rest := []) X (fun u9 h9 => cp_X12_key l E r N 12 t17 u9 h9) yy_X12_key yi_X12_key wdM_RX12_378 0 12 (gW_at oM) rfl rfl rfl (Nat.le_of_ble_eq_true rfl) dX12_statement_245 ⟨by show 9 + 1 ≤ D9 + 1 + 213; omega, by show 8 + (2 + 11) + 268 ≤ 60 * (D9 + 1) + 12350; omega⟩ ⟨rfl, rfl⟩ h (fun v20 t19 h => ?_)
                    refine g_if_eq (tgt := 262) X dX12_statement_248 (by decide) h (fun h => ?_) (fun h => ?_)
                    · refine g_iconst X dX12_statement_262 ?_
                      exact g_zret X h dX12_statement_263
                    · refine g_aload_n X dX12_statement_251 0 rfl ?_
                      refine g_callI (rest := []) X (fun u9 h9 => ho_block t19 u9 h9) yy_X12_block yi_X12_block wdM_RX12_389 0 12 (gW_at oM) rfl rfl rfl (Nat.le_of_ble_eq_true rfl) dX12_statement_252 ⟨by show D9 + 213 + 1 ≤ D9 + 1 + 213; omega, by show 8 + (2 + 11) + (60 * D9 + 12350) ≤ 60 * (D9 + 1) + 12350; omega⟩ ⟨rfl, rfl⟩ h (fun v22 t21 h => ?_)
                      refine g_if_eq (tgt := 262) X dX12_statement_255 (by decide) h (fun h => ?_) (fun h => ?_)
                      · refine g_iconst X dX12_statement_262 ?_
                        exact g_zret X h dX12_statement_263
                      · refine g_iconst X dX12_statement_258 ?_
                        refine g_goto (tgt := 263) X dX12_statement_259 (by decide) ?_
                        exact g_zret X h dX12_statement_263
                · refine g_iconst X dX12_statement_231 ?_
                  exact g_zret X h dX12_statement_232
          · refine g_aload_n X dX12_statement_186 0 rfl ?_
            refine g_callI (rest := []) X (fun u9 h9 => cp_X12_stepText l E r N t9 u9 h9) yy_X12_stepText yi_X12_stepText wdM_RX12_395 0 12 (gW_at oM) rfl rfl rfl (Nat.le_of_ble_eq_true rfl) dX12_statement_187 ⟨by show 112 + 1 ≤ D9 + 1 + 213; omega, by show 8 + (3 + 11) + 6330 ≤ 60 * (D9 + 1) + 12350; omega⟩ ⟨rfl, rfl⟩ h (fun v24 t23 h => ?_)
            refine g_if_eq (tgt := 206) X dX12_statement_190 (by decide) h (fun h => ?_) (fun h => ?_)
            · refine g_iconst X dX12_statement_206 ?_
              exact g_zret X h dX12_statement_207
            · refine g_aload_n X dX12_statement_193 0 rfl ?_
              refine g_bipush X dX12_statement_194 (by decide) ?_
              refine g_callI (rest := []) X (fun u9 h9 => cp_X12_sign l E r N 59 t23 u9 h9) yy_X12_sign yi_X12_sign wdM_RX12_344 0 12 (gW_at oM) rfl rfl rfl (Nat.le_of_ble_eq_true rfl) dX12_statement_196 ⟨by show 9 + 1 ≤ D9 + 1 + 213; omega, by show 8 + (2 + 11) + 268 ≤ 60 * (D9 + 1) + 12350; omega⟩ ⟨rfl, rfl⟩ h (fun v26 t25 h => ?_)
              refine g_if_eq (tgt := 206) X dX12_statement_199 (by decide) h (fun h => ?_) (fun h => ?_)
              · refine g_iconst X dX12_statement_206 ?_
                exact g_zret X h dX12_statement_207
              · refine g_iconst X dX12_statement_202 ?_
                refine g_goto (tgt := 207) X dX12_statement_203 (by decide) ?_
                exact g_zret X h dX12_statement_207
        · refine g_aload_n X dX12_statement_148 0 rfl ?_
          refine g_bipush X dX12_statement_149 (by decide) ?_
          refine g_callI (rest := []) X (fun u9 h9 => cp_X12_key l E r N 13 t7 u9 h9) yy_X12_key yi_X12_key wdM_RX12_378 0 12 (gW_at oM) rfl rfl rfl (Nat.le_of_ble_eq_true rfl) dX12_statement_151 ⟨by show 9 + 1 ≤ D9 + 1 + 213; omega, by show 8 + (2 + 11) + 268 ≤ 60 * (D9 + 1) + 12350; omega⟩ ⟨rfl, rfl⟩ h (fun v28 t27 h => ?_)
          refine g_if_eq (tgt := 175) X dX12_statement_154 (by decide) h (fun h => ?_) (fun h => ?_)
          · refine g_iconst X dX12_statement_175 ?_
            exact g_zret X h dX12_statement_176
          · refine g_aload_n X dX12_statement_157 0 rfl ?_
            refine g_callI (rest := []) X (fun u9 h9 => cp_X12_whoText l E r N t27 u9 h9) yy_X12_whoText yi_X12_whoText wdM_RX12_410 0 12 (gW_at oM) rfl rfl rfl (Nat.le_of_ble_eq_true rfl) dX12_statement_158 ⟨by show 111 + 1 ≤ D9 + 1 + 213; omega, by show 8 + (1 + 11) + 6310 ≤ 60 * (D9 + 1) + 12350; omega⟩ ⟨rfl, rfl⟩ h (fun v30 t29 h => ?_)
            refine g_if_eq (tgt := 175) X dX12_statement_161 (by decide) h (fun h => ?_) (fun h => ?_)
            · refine g_iconst X dX12_statement_175 ?_
              exact g_zret X h dX12_statement_176
            · refine g_aload_n X dX12_statement_164 0 rfl ?_
              refine g_callI (rest := []) X (fun u9 h9 => ho_block t29 u9 h9) yy_X12_block yi_X12_block wdM_RX12_389 0 12 (gW_at oM) rfl rfl rfl (Nat.le_of_ble_eq_true rfl) dX12_statement_165 ⟨by show D9 + 213 + 1 ≤ D9 + 1 + 213; omega, by show 8 + (2 + 11) + (60 * D9 + 12350) ≤ 60 * (D9 + 1) + 12350; omega⟩ ⟨rfl, rfl⟩ h (fun v32 t31 h => ?_)
              refine g_if_eq (tgt := 175) X dX12_statement_168 (by decide) h (fun h => ?_) (fun h => ?_)
              · refine g_iconst X dX12_statement_175 ?_
                exact g_zret X h dX12_statement_176
              · refine g_iconst X dX12_statement_171 ?_
                refine g_goto (tgt := 176) X dX12_statement_172 (by decide) ?_
                exact g_zret X h dX12_statement_176
      · refine g_aload_n X dX12_statement_91 0 rfl ?_
        refine g_bipush X dX12_statement_92 (by decide) ?_
        refine g_callI (rest := []) X (fun u9 h9 => cp_X12_key l E r N 9 t5 u9 h9) yy_X12_key yi_X12_key wdM_RX12_378 0 12 (gW_at oM) rfl rfl rfl (Nat.le_of_ble_eq_true rfl) dX12_statement_94 ⟨by show 9 + 1 ≤ D9 + 1 + 213; omega, by show 8 + (2 + 11) + 268 ≤ 60 * (D9 + 1) + 12350; omega⟩ ⟨rfl, rfl⟩ h (fun v34 t33 h => ?_)
        refine g_if_eq (tgt := 137) X dX12_statement_97 (by decide) h (fun h => ?_) (fun h => ?_)
        · refine g_iconst X dX12_statement_137 ?_
          exact g_zret X h dX12_statement_138
        · refine g_aload_n X dX12_statement_100 0 rfl ?_
          refine g_callI (rest := []) X (fun u9 h9 => cp_X12_condition l E r N t33 u9 h9) yy_X12_condition yi_X12_condition wdM_RX12_407 0 12 (gW_at oM) rfl rfl rfl (Nat.le_of_ble_eq_true rfl) dX12_statement_101 ⟨by show 212 + 1 ≤ D9 + 1 + 213; omega, by show 8 + (1 + 11) + 12330 ≤ 60 * (D9 + 1) + 12350; omega⟩ ⟨rfl, rfl⟩ h (fun v36 t35 h => ?_)
          refine g_if_eq (tgt := 137) X dX12_statement_104 (by decide) h (fun h => ?_) (fun h => ?_)
          · refine g_iconst X dX12_statement_137 ?_
            exact g_zret X h dX12_statement_138
          · refine g_aload_n X dX12_statement_107 0 rfl ?_
            refine g_bipush X dX12_statement_108 (by decide) ?_
            refine g_callI (rest := []) X (fun u9 h9 => cp_X12_key l E r N 10 t35 u9 h9) yy_X12_key yi_X12_key wdM_RX12_378 0 12 (gW_at oM) rfl rfl rfl (Nat.le_of_ble_eq_true rfl) dX12_statement_110 ⟨by show 9 + 1 ≤ D9 + 1 + 213; omega, by show 8 + (2 + 11) + 268 ≤ 60 * (D9 + 1) + 12350; omega⟩ ⟨rfl, rfl⟩ h (fun v38 t37 h => ?_)
            refine g_if_eq (tgt := 137) X dX12_statement_113 (by decide) h (fun h => ?_) (fun h => ?_)
            · refine g_iconst X dX12_statement_137 ?_
              exact g_zret X h dX12_statement_138
            · refine g_aload_n X dX12_statement_116 0 rfl ?_
              refine g_iconst X dX12_statement_117 ?_
              refine g_bipush X dX12_statement_118 (by decide) ?_
              refine g_callI (rest := []) X (fun u9 h9 => cp_X12_number l E r N 1 64 t37 u9 h9) yy_X12_number yi_X12_number wdM_RX12_384 0 12 (gW_at oM) rfl rfl rfl (Nat.le_of_ble_eq_true rfl) dX12_statement_120 ⟨by show 9 + 1 ≤ D9 + 1 + 213; omega, by show 8 + (3 + 11) + 268 ≤ 60 * (D9 + 1) + 12350; omega⟩ ⟨rfl, rfl⟩ h (fun v40 t39 h => ?_)
              refine g_if_eq (tgt := 137) X dX12_statement_123 (by decide) h (fun h => ?_) (fun h => ?_)
              · refine g_iconst X dX12_statement_137 ?_
                exact g_zret X h dX12_statement_138
              · refine g_aload_n X dX12_statement_126 0 rfl ?_
                refine g_callI (rest := []) X (fun u9 h9 => ho_block t39 u9 h9) yy_X12_block yi_X12_block wdM_RX12_389 0 12 (gW_at oM) rfl rfl rfl (Nat.le_of_ble_eq_true rfl) dX12_statement_127 ⟨by show D9 + 213 + 1 ≤ D9 + 1 + 213; omega, by show 8 + (2 + 11) + (60 * D9 + 12350) ≤ 60 * (D9 + 1) + 12350; omega⟩ ⟨rfl, rfl⟩ h (fun v42 t41 h => ?_)
                refine g_if_eq (tgt := 137) X dX12_statement_130 (by decide) h (fun h => ?_) (fun h => ?_)
                · refine g_iconst X dX12_statement_137 ?_
                  exact g_zret X h dX12_statement_138
                · refine g_iconst X dX12_statement_133 ?_
                  refine g_goto (tgt := 138) X dX12_statement_134 (by decide) ?_
                  exact g_zret X h dX12_statement_138
    · refine g_aload_n X dX12_statement_50 0 rfl ?_
      refine g_bipush X dX12_statement_51 (by decide) ?_
      refine g_callI (rest := []) X (fun u9 h9 => cp_X12_key l E r N 8 t3 u9 h9) yy_X12_key yi_X12_key wdM_RX12_378 0 12 (gW_at oM) rfl rfl rfl (Nat.le_of_ble_eq_true rfl) dX12_statement_53 ⟨by show 9 + 1 ≤ D9 + 1 + 213; omega, by show 8 + (2 + 11) + 268 ≤ 60 * (D9 + 1) + 12350; omega⟩ ⟨rfl, rfl⟩ h (fun v44 t43 h => ?_)
      refine g_if_eq (tgt := 80) X dX12_statement_56 (by decide) h (fun h => ?_) (fun h => ?_)
      · refine g_iconst X dX12_statement_80 ?_
        exact g_zret X h dX12_statement_81
      · refine g_aload_n X dX12_statement_59 0 rfl ?_
        refine g_iconst X dX12_statement_60 ?_
        refine g_bipush X dX12_statement_61 (by decide) ?_
        refine g_callI (rest := []) X (fun u9 h9 => cp_X12_number l E r N 1 64 t43 u9 h9) yy_X12_number yi_X12_number wdM_RX12_384 0 12 (gW_at oM) rfl rfl rfl (Nat.le_of_ble_eq_true rfl) dX12_statement_63 ⟨by show 9 + 1 ≤ D9 + 1 + 213; omega, by show 8 + (3 + 11) + 268 ≤ 60 * (D9 + 1) + 12350; omega⟩ ⟨rfl, rfl⟩ h (fun v46 t45 h => ?_)
        refine g_if_eq (tgt := 80) X dX12_statement_66 (by decide) h (fun h => ?_) (fun h => ?_)
        · refine g_iconst X dX12_statement_80 ?_
          exact g_zret X h dX12_statement_81
        · refine g_aload_n X dX12_statement_69 0 rfl ?_
          refine g_callI (rest := []) X (fun u9 h9 => ho_block t45 u9 h9) yy_X12_block yi_X12_block wdM_RX12_389 0 12 (gW_at oM) rfl rfl rfl (Nat.le_of_ble_eq_true rfl) dX12_statement_70 ⟨by show D9 + 213 + 1 ≤ D9 + 1 + 213; omega, by show 8 + (2 + 11) + (60 * D9 + 12350) ≤ 60 * (D9 + 1) + 12350; omega⟩ ⟨rfl, rfl⟩ h (fun v48 t47 h => ?_)
          refine g_if_eq (tgt := 80) X dX12_statement_73 (by decide) h (fun h => ?_) (fun h => ?_)
          · refine g_iconst X dX12_statement_80 ?_
            exact g_zret X h dX12_statement_81
          · refine g_iconst X dX12_statement_76 ?_
            refine g_goto (tgt := 81) X dX12_statement_77 (by decide) ?_
            exact g_zret X h dX12_statement_81
  · refine g_aload_n X dX12_statement_9 0 rfl ?_
    refine g_bipush X dX12_statement_10 (by decide) ?_
    refine g_callI (rest := []) X (fun u9 h9 => cp_X12_key l E r N 7 t1 u9 h9) yy_X12_key yi_X12_key wdM_RX12_378 0 12 (gW_at oM) rfl rfl rfl (Nat.le_of_ble_eq_true rfl) dX12_statement_12 ⟨by show 9 + 1 ≤ D9 + 1 + 213; omega, by show 8 + (2 + 11) + 268 ≤ 60 * (D9 + 1) + 12350; omega⟩ ⟨rfl, rfl⟩ h (fun v50 t49 h => ?_)
    refine g_if_eq (tgt := 39) X dX12_statement_15 (by decide) h (fun h => ?_) (fun h => ?_)
    · refine g_iconst X dX12_statement_39 ?_
      exact g_zret X h dX12_statement_40
    · refine g_aload_n X dX12_statement_18 0 rfl ?_
      refine g_iconst X dX12_statement_19 ?_
      refine g_callI (rest := []) X (fun u9 h9 => cp_X12_knownName l E r N 2 t49 u9 h9) yy_X12_knownName yi_X12_knownName wdM_RX12_381 0 12 (gW_at oM) rfl rfl rfl (Nat.le_of_ble_eq_true rfl) dX12_statement_20 ⟨by show 9 + 1 ≤ D9 + 1 + 213; omega, by show 8 + (3 + 11) + 268 ≤ 60 * (D9 + 1) + 12350; omega⟩ ⟨rfl, rfl⟩ h (fun v52 t51 h => ?_)
      refine g_if_eq (tgt := 39) X dX12_statement_23 (by decide) h (fun h => ?_) (fun h => ?_)
      · refine g_iconst X dX12_statement_39 ?_
        exact g_zret X h dX12_statement_40
      · refine g_aload_n X dX12_statement_26 0 rfl ?_
        refine g_bipush X dX12_statement_27 (by decide) ?_
        refine g_callI (rest := []) X (fun u9 h9 => cp_X12_sign l E r N 59 t51 u9 h9) yy_X12_sign yi_X12_sign wdM_RX12_344 0 12 (gW_at oM) rfl rfl rfl (Nat.le_of_ble_eq_true rfl) dX12_statement_29 ⟨by show 9 + 1 ≤ D9 + 1 + 213; omega, by show 8 + (2 + 11) + 268 ≤ 60 * (D9 + 1) + 12350; omega⟩ ⟨rfl, rfl⟩ h (fun v54 t53 h => ?_)
        refine g_if_eq (tgt := 39) X dX12_statement_32 (by decide) h (fun h => ?_) (fun h => ?_)
        · refine g_iconst X dX12_statement_39 ?_
          exact g_zret X h dX12_statement_40
        · refine g_iconst X dX12_statement_35 ?_
          refine g_goto (tgt := 40) X dX12_statement_36 (by decide) ?_
          exact g_zret X h dX12_statement_40
set_option maxHeartbeats 4000000 in
set_option maxRecDepth 100000 in
theorem cpo_X12_statement (l : Launch) (E : cE) (r : Nat → Nat) (N : Nat) (D9 : Nat) (fo_block : (St → Option (Int × St))) (ho_block : ∀ (t : St) (z : Int × St), fo_block t = some z → cM l E yX12_block cX12_block 2 (some .boolean) (rmS_block D9) [.ref (r 200)] (gW E r shM t) (gqI E (gW E r shM) z)) (t : St) (z : Int × St) (h : o_X12_statement N fo_block t = some z) : cM l E yX12_statement cX12_statement 1 (some .boolean) (rmS_block (D9 + 1)) [.ref (r 200)] (gW E r shM t) (gqI E (gW E r shM) z) := by
  refine g_of (w := gW E r shM) (by decide) (Nat.le_of_ble_eq_true rfl) ?_
  intro p e s m below meth c A X
  exact g_sub (lv' := [(0, .ref (r 200))]) [0] rfl (b_o_X12_statement ho_block X h)
def rec_block (N : Nat) : Nat → (St → Option (Int × St)) × (St → Option (Int × St))
  | 0 => (fun _ => none, fun _ => none)
  | D + 1 => (o_X12_block N (rec_block N D).2, o_X12_statement N (rec_block N D).1)
theorem rec_block_ok (l : Launch) (E : cE) (r : Nat → Nat) (N : Nat) : ∀ D : Nat, (∀ (t : St) (z : Int × St), (rec_block N D).1 t = some z → cM l E yX12_block cX12_block 2 (some .boolean) (rmS_block D) [.ref (r 200)] (gW E r shM t) (gqI E (gW E r shM) z)) ∧ (∀ (t : St) (z : Int × St), (rec_block N D).2 t = some z → cM l E yX12_statement cX12_statement 1 (some .boolean) (rmS_block D) [.ref (r 200)] (gW E r shM t) (gqI E (gW E r shM) z)) := by
  intro D
  induction D with
  | zero => exact ⟨fun _ _ h => (by cases h), fun _ _ h => (by cases h)⟩
  | succ D ih => exact ⟨fun t z h => cpo_X12_block l E r N D _ ih.2 t z h, fun t z h => cpo_X12_statement l E r N D _ ih.1 t z h⟩
def f_X12_block (N : Nat) (t : St) : Option (Int × St) := (rec_block N 100).1 t
abbrev rm_f_X12_block : Room := { frames := 313, cells := 0, slots := 0, locals := 18350 }
theorem cp_X12_block (l : Launch) (E : cE) (r : Nat → Nat) (N : Nat) (t : St) (z : Int × St) (h : f_X12_block N t = some z) : cM l E yX12_block cX12_block 2 (some .boolean) rm_f_X12_block [.ref (r 200)] (gW E r shM t) (gqI E (gW E r shM) z) := (rec_block_ok l E r N 100).1 t z h
def f_X12_statement (N : Nat) (t : St) : Option (Int × St) := (rec_block N 100).2 t
abbrev rm_f_X12_statement : Room := { frames := 313, cells := 0, slots := 0, locals := 18350 }
theorem cp_X12_statement (l : Launch) (E : cE) (r : Nat → Nat) (N : Nat) (t : St) (z : Int × St) (h : f_X12_statement N t = some z) : cM l E yX12_statement cX12_statement 1 (some .boolean) rm_f_X12_statement [.ref (r 200)] (gW E r shM t) (gqI E (gW E r shM) z) := (rec_block_ok l E r N 100).2 t z h
theorem dX12_part_0 : decode cX12_part 0 = .ok (.aload_n 0, 1) := by decide +kernel
theorem dX12_part_1 : decode cX12_part 1 = .ok (.getfield 386, 3) := by decide +kernel
theorem dX12_part_4 : decode cX12_part 4 = .ok (.bipush 60, 2) := by decide +kernel
theorem dX12_part_6 : decode cX12_part 6 = .ok (.if_icmp .ne 9, 3) := by decide +kernel
theorem dX12_part_9 : decode cX12_part 9 = .ok (.aload_n 0, 1) := by decide +kernel
theorem dX12_part_10 : decode cX12_part 10 = .ok (.iconst 5, 1) := by decide +kernel
theorem dX12_part_11 : decode cX12_part 11 = .ok (.invokevirtual 317, 3) := by decide +kernel
theorem dX12_part_14 : decode cX12_part 14 = .ok (.ireturn, 1) := by decide +kernel
theorem dX12_part_15 : decode cX12_part 15 = .ok (.aload_n 0, 1) := by decide +kernel
theorem dX12_part_16 : decode cX12_part 16 = .ok (.iconst 1, 1) := by decide +kernel
theorem dX12_part_17 : decode cX12_part 17 = .ok (.putfield 311, 3) := by decide +kernel
theorem dX12_part_20 : decode cX12_part 20 = .ok (.aload_n 0, 1) := by decide +kernel
theorem dX12_part_21 : decode cX12_part 21 = .ok (.iconst 2, 1) := by decide +kernel
theorem dX12_part_22 : decode cX12_part 22 = .ok (.invokevirtual 329, 3) := by decide +kernel
theorem dX12_part_25 : decode cX12_part 25 = .ok (.ifCond .eq 10, 3) := by decide +kernel
theorem dX12_part_28 : decode cX12_part 28 = .ok (.aload_n 0, 1) := by decide +kernel
theorem dX12_part_29 : decode cX12_part 29 = .ok (.invokevirtual 365, 3) := by decide +kernel
theorem dX12_part_32 : decode cX12_part 32 = .ok (.ifCond .ne 5, 3) := by decide +kernel
theorem dX12_part_35 : decode cX12_part 35 = .ok (.iconst 0, 1) := by decide +kernel
theorem dX12_part_36 : decode cX12_part 36 = .ok (.ireturn, 1) := by decide +kernel
theorem dX12_part_37 : decode cX12_part 37 = .ok (.aload_n 0, 1) := by decide +kernel
theorem dX12_part_38 : decode cX12_part 38 = .ok (.getfield 353, 3) := by decide +kernel
theorem dX12_part_41 : decode cX12_part 41 = .ok (.istore_n 1, 1) := by decide +kernel
theorem dX12_part_42 : decode cX12_part 42 = .ok (.aload_n 0, 1) := by decide +kernel
theorem dX12_part_43 : decode cX12_part 43 = .ok (.getfield 356, 3) := by decide +kernel
theorem dX12_part_46 : decode cX12_part 46 = .ok (.istore_n 2, 1) := by decide +kernel
theorem dX12_part_47 : decode cX12_part 47 = .ok (.aload_n 0, 1) := by decide +kernel
theorem dX12_part_48 : decode cX12_part 48 = .ok (.getfield 59, 3) := by decide +kernel
theorem dX12_part_51 : decode cX12_part 51 = .ok (.aload_n 0, 1) := by decide +kernel
theorem dX12_part_52 : decode cX12_part 52 = .ok (.getfield 386, 3) := by decide +kernel
theorem dX12_part_55 : decode cX12_part 55 = .ok (.aload_n 0, 1) := by decide +kernel
theorem dX12_part_56 : decode cX12_part 56 = .ok (.getfield 314, 3) := by decide +kernel
theorem dX12_part_59 : decode cX12_part 59 = .ok (.iastore, 1) := by decide +kernel
theorem dX12_part_60 : decode cX12_part 60 = .ok (.aload_n 0, 1) := by decide +kernel
theorem dX12_part_61 : decode cX12_part 61 = .ok (.invokevirtual 389, 3) := by decide +kernel
theorem dX12_part_64 : decode cX12_part 64 = .ok (.ifCond .ne 5, 3) := by decide +kernel
theorem dX12_part_67 : decode cX12_part 67 = .ok (.iconst 0, 1) := by decide +kernel
theorem dX12_part_68 : decode cX12_part 68 = .ok (.ireturn, 1) := by decide +kernel
theorem dX12_part_69 : decode cX12_part 69 = .ok (.aload_n 0, 1) := by decide +kernel
theorem dX12_part_70 : decode cX12_part 70 = .ok (.iconst 0, 1) := by decide +kernel
theorem dX12_part_71 : decode cX12_part 71 = .ok (.putfield 311, 3) := by decide +kernel
theorem dX12_part_74 : decode cX12_part 74 = .ok (.aload_n 0, 1) := by decide +kernel
theorem dX12_part_75 : decode cX12_part 75 = .ok (.iconst 2, 1) := by decide +kernel
theorem dX12_part_76 : decode cX12_part 76 = .ok (.aload_n 0, 1) := by decide +kernel
theorem dX12_part_77 : decode cX12_part 77 = .ok (.getfield 386, 3) := by decide +kernel
theorem dX12_part_80 : decode cX12_part 80 = .ok (.iload_n 1, 1) := by decide +kernel
theorem dX12_part_81 : decode cX12_part 81 = .ok (.iload_n 2, 1) := by decide +kernel
theorem dX12_part_82 : decode cX12_part 82 = .ok (.invokevirtual 372, 3) := by decide +kernel
theorem dX12_part_85 : decode cX12_part 85 = .ok (.aload_n 0, 1) := by decide +kernel
theorem dX12_part_86 : decode cX12_part 86 = .ok (.dup, 1) := by decide +kernel
theorem dX12_part_87 : decode cX12_part 87 = .ok (.getfield 386, 3) := by decide +kernel
theorem dX12_part_90 : decode cX12_part 90 = .ok (.iconst 1, 1) := by decide +kernel
theorem dX12_part_91 : decode cX12_part 91 = .ok (.iadd, 1) := by decide +kernel
theorem dX12_part_92 : decode cX12_part 92 = .ok (.putfield 386, 3) := by decide +kernel
theorem dX12_part_95 : decode cX12_part 95 = .ok (.iconst 1, 1) := by decide +kernel
theorem dX12_part_96 : decode cX12_part 96 = .ok (.ireturn, 1) := by decide +kernel
abbrev rm_f_X12_part : Room := { frames := 314, cells := 0, slots := 0, locals := 18371 }
def f_X12_part (N : Nat) (t : St) : Option (Int × St) :=
    lt1 (t.1 200 16) fun v1 =>
    cmpI v1 60 (if v1 = 60 then (bdI (f_X12_wrong N 5 t) fun v20 t19 =>
    boI v20 (some (v20, t19)))
    else (lt1 (pI t 200 36 1) fun t2 =>
    bdI (f_X12_takes N 2 t2) fun v4 t3 =>
    cmpI v4 0 (if v4 = 0 then (boI 0 (some (0, t3)))
    else (bdI (f_X12_newName N t3) fun v6 t5 =>
    cmpI v6 0 (if v6 = 0 then (boI 0 (some (0, t5)))
    else (lt1 (t5.1 200 111) fun v7 =>
    lt1 (t5.1 200 112) fun v8 =>
    lt1 (t5.1 200 16) fun v9 =>
    lt1 (t5.1 200 33) fun v10 =>
    ixI v9 60 (lt1 (pI t5 29 v9.toNat v10) fun t11 =>
    bdI (f_X12_block N t11) fun v13 t12 =>
    cmpI v13 0 (if v13 = 0 then (boI 0 (some (0, t12)))
    else (lt1 (pI t12 200 36 0) fun t14 =>
    lt1 (t14.1 200 16) fun v15 =>
    bdV (f_X12_tell N 2 v15 v7 v8 t14) fun t16 =>
    lt1 (t16.1 200 16) fun v17 =>
    lt1 (pI t16 200 16 (v17 + 1)) fun t18 =>
    boI 1 (some (1, t18)))))))))))
set_option maxHeartbeats 4000000 in
set_option maxRecDepth 100000 in
theorem b_f_X12_part {p : Program} {l : Launch} {e : Env} {s : State} {m : MethodId} {args : Array Value} {below : List Frame} {meth : Method} {c : Code} {E : cE} {A : Nat → Prop} {r : Nat → Nat} {mc ms : Nat} {z : Int × St} {N : Nat} {t : St} (X : gX p s m meth c cX12_part 3 (some .boolean) yX12_part args E A) (h : f_X12_part N t = some z) : gP p l e rm_f_X12_part s m args below meth c E A 3 (MQ below ((gqI E (gW E r shM) z) A) args s mc ms A) (gW E r shM) 0 [(0, .ref (r 200))] [] t := by
  unfold f_X12_part at h
  refine g_aload_n X dX12_part_0 0 rfl ?_
  refine g_getI X fM_16 rfl dX12_part_1 h (fun v1 h => ?_)
  refine g_bipush X dX12_part_4 (by decide) ?_
  refine g_icmp_ne (tgt := 15) X dX12_part_6 (by decide) h (fun h => ?_) (fun h => ?_)
  · refine g_aload_n X dX12_part_15 0 rfl ?_
    refine g_iconst X dX12_part_16 ?_
    refine g_putI X fM_36w rfl dX12_part_17 h (fun t2 h => ?_)
    refine g_aload_n X dX12_part_20 0 rfl ?_
    refine g_iconst X dX12_part_21 ?_
    refine g_callI (rest := []) X (fun u9 h9 => cp_X12_takes l E r N 2 t2 u9 h9) yy_X12_takes yi_X12_takes wdM_RX12_329 0 12 (gW_at oM) rfl rfl rfl (Nat.le_of_ble_eq_true rfl) dX12_part_22 ⟨by decide, by decide⟩ ⟨rfl, rfl⟩ h (fun v4 t3 h => ?_)
    refine g_if_eq (tgt := 35) X dX12_part_25 (by decide) h (fun h => ?_) (fun h => ?_)
    · refine g_iconst X dX12_part_35 ?_
      exact g_zret X h dX12_part_36
    · refine g_aload_n X dX12_part_28 0 rfl ?_
      refine g_callI (rest := []) X (fun u9 h9 => cp_X12_newName l E r N t3 u9 h9) yy_X12_newName yi_X12_newName wdM_RX12_365 0 12 (gW_at oM) rfl rfl rfl (Nat.le_of_ble_eq_true rfl) dX12_part_29 ⟨by decide, by decide⟩ ⟨rfl, rfl⟩ h (fun v6 t5 h => ?_)
      refine g_if_ne (tgt := 37) X dX12_part_32 (by decide) h (fun h => ?_) (fun h => ?_)
      · refine g_aload_n X dX12_part_37 0 rfl ?_
        refine g_getI X fM_111 rfl dX12_part_38 h (fun v7 h => ?_)
        refine g_istore_n (lv' := [(1, iv v7), (0, .ref (r 200))]) X dX12_part_41 rfl (by decide) rfl ?_
        refine g_aload_n X dX12_part_42 1 rfl ?_
        refine g_getI X fM_112 rfl dX12_part_43 h (fun v8 h => ?_)
        refine g_istore_n (lv' := [(2, iv v8), (1, iv v7), (0, .ref (r 200))]) X dX12_part_46 rfl (by decide) rfl ?_
        refine g_aload_n X dX12_part_47 2 rfl ?_
        refine g_getR X fM_29 rfl dX12_part_48 ?_
        refine g_aload_n X dX12_part_51 2 rfl ?_
        refine g_getI X fM_16 rfl dX12_part_52 h (fun v9 h => ?_)
        refine g_aload_n X dX12_part_55 2 rfl ?_
        refine g_getI X fM_33 rfl dX12_part_56 h (fun v10 h => ?_)
        refine g_iast X aM_29 dX12_part_59 h (fun t11 h => ?_)
        refine g_aload_n X dX12_part_60 2 rfl ?_
        refine g_callI (rest := []) X (fun u9 h9 => cp_X12_block l E r N t11 u9 h9) yy_X12_block yi_X12_block wdM_RX12_389 0 12 (gW_at oM) rfl rfl rfl (Nat.le_of_ble_eq_true rfl) dX12_part_61 ⟨by decide, by decide⟩ ⟨rfl, rfl⟩ h (fun v13 t12 h => ?_)
        refine g_if_ne (tgt := 69) X dX12_part_64 (by decide) h (fun h => ?_) (fun h => ?_)
        · refine g_aload_n X dX12_part_69 2 rfl ?_
          refine g_iconst X dX12_part_70 ?_
          refine g_putI X fM_36w rfl dX12_part_71 h (fun t14 h => ?_)
          refine g_aload_n X dX12_part_74 2 rfl ?_
          refine g_iconst X dX12_part_75 ?_
          refine g_aload_n X dX12_part_76 2 rfl ?_
          refine g_getI X fM_16 rfl dX12_part_77 h (fun v15 h => ?_)
          refine g_iload_n X dX12_part_80 1 rfl ?_
          refine g_iload_n X dX12_part_81 0 rfl ?_
          refine g_callV (rest := []) X (fun u9 h9 => cp_X12_tell l E r N 2 v15 v7 v8 t14 u9 h9) yy_X12_tell yi_X12_tell wdM_RX12_372 0 12 (gW_at oM) rfl rfl rfl (Nat.le_of_ble_eq_true rfl) dX12_part_82 ⟨by decide, by decide⟩ ⟨rfl, rfl⟩ h (fun t16 h => ?_)
          refine g_aload_n X dX12_part_85 2 rfl ?_
          refine g_dup X rfl dX12_part_86 ?_
          refine g_getI X fM_16 rfl dX12_part_87 h (fun v17 h => ?_)
          refine g_iconst X dX12_part_90 ?_
          refine g_iadd X dX12_part_91 ?_
          refine g_putI X fM_16w rfl dX12_part_92 h (fun t18 h => ?_)
          refine g_iconst X dX12_part_95 ?_
          exact g_zret X h dX12_part_96
        · refine g_iconst X dX12_part_67 ?_
          exact g_zret X h dX12_part_68
      · refine g_iconst X dX12_part_35 ?_
        exact g_zret X h dX12_part_36
  · refine g_aload_n X dX12_part_9 0 rfl ?_
    refine g_iconst X dX12_part_10 ?_
    refine g_callI (rest := []) X (fun u9 h9 => cp_X12_wrong l E r N 5 t u9 h9) yy_X12_wrong yi_X12_wrong wdM_RX12_317 0 12 (gW_at oM) rfl rfl rfl (Nat.le_of_ble_eq_true rfl) dX12_part_11 ⟨by decide, by decide⟩ ⟨rfl, rfl⟩ h (fun v20 t19 h => ?_)
    exact g_zret X h dX12_part_14
set_option maxHeartbeats 4000000 in
set_option maxRecDepth 100000 in
theorem cp_X12_part (l : Launch) (E : cE) (r : Nat → Nat) (N : Nat) (t : St) (z : Int × St) (h : f_X12_part N t = some z) : cM l E yX12_part cX12_part 3 (some .boolean) rm_f_X12_part [.ref (r 200)] (gW E r shM t) (gqI E (gW E r shM) z) := by
  refine g_of (w := gW E r shM) (by decide) (Nat.le_of_ble_eq_true rfl) ?_
  intro p e s m below meth c A X
  exact g_sub (lv' := [(0, .ref (r 200))]) [0] rfl (b_f_X12_part X h)
theorem yy_X12_part : cY yX12_part cX12_part 3 (some .boolean) 0 := ⟨wdK_X12_part, wdZ_RX12, by decide +kernel⟩
theorem yi_X12_part : cYi yX12_part := ⟨wdN_X12_part, wdS_X12_part⟩
theorem dX12_allow_0 : decode cX12_allow 0 = .ok (.aload_n 0, 1) := by decide +kernel
theorem dX12_allow_1 : decode cX12_allow 1 = .ok (.getfield 392, 3) := by decide +kernel
theorem dX12_allow_4 : decode cX12_allow 4 = .ok (.bipush 32, 2) := by decide +kernel
theorem dX12_allow_6 : decode cX12_allow 6 = .ok (.if_icmp .ne 9, 3) := by decide +kernel
theorem dX12_allow_9 : decode cX12_allow 9 = .ok (.aload_n 0, 1) := by decide +kernel
theorem dX12_allow_10 : decode cX12_allow 10 = .ok (.iconst 5, 1) := by decide +kernel
theorem dX12_allow_11 : decode cX12_allow 11 = .ok (.invokevirtual 317, 3) := by decide +kernel
theorem dX12_allow_14 : decode cX12_allow 14 = .ok (.ireturn, 1) := by decide +kernel
theorem dX12_allow_15 : decode cX12_allow 15 = .ok (.aload_n 0, 1) := by decide +kernel
theorem dX12_allow_16 : decode cX12_allow 16 = .ok (.iconst 1, 1) := by decide +kernel
theorem dX12_allow_17 : decode cX12_allow 17 = .ok (.putfield 311, 3) := by decide +kernel
theorem dX12_allow_20 : decode cX12_allow 20 = .ok (.aload_n 0, 1) := by decide +kernel
theorem dX12_allow_21 : decode cX12_allow 21 = .ok (.iconst 3, 1) := by decide +kernel
theorem dX12_allow_22 : decode cX12_allow 22 = .ok (.invokevirtual 329, 3) := by decide +kernel
theorem dX12_allow_25 : decode cX12_allow 25 = .ok (.ifCond .ne 5, 3) := by decide +kernel
theorem dX12_allow_28 : decode cX12_allow 28 = .ok (.iconst 0, 1) := by decide +kernel
theorem dX12_allow_29 : decode cX12_allow 29 = .ok (.ireturn, 1) := by decide +kernel
theorem dX12_allow_30 : decode cX12_allow 30 = .ok (.aload_n 0, 1) := by decide +kernel
theorem dX12_allow_31 : decode cX12_allow 31 = .ok (.getfield 62, 3) := by decide +kernel
theorem dX12_allow_34 : decode cX12_allow 34 = .ok (.aload_n 0, 1) := by decide +kernel
theorem dX12_allow_35 : decode cX12_allow 35 = .ok (.getfield 392, 3) := by decide +kernel
theorem dX12_allow_38 : decode cX12_allow 38 = .ok (.aload_n 0, 1) := by decide +kernel
theorem dX12_allow_39 : decode cX12_allow 39 = .ok (.getfield 314, 3) := by decide +kernel
theorem dX12_allow_42 : decode cX12_allow 42 = .ok (.iastore, 1) := by decide +kernel
theorem dX12_allow_43 : decode cX12_allow 43 = .ok (.aload_n 0, 1) := by decide +kernel
theorem dX12_allow_44 : decode cX12_allow 44 = .ok (.invokevirtual 395, 3) := by decide +kernel
theorem dX12_allow_47 : decode cX12_allow 47 = .ok (.ifCond .eq 12, 3) := by decide +kernel
theorem dX12_allow_50 : decode cX12_allow 50 = .ok (.aload_n 0, 1) := by decide +kernel
theorem dX12_allow_51 : decode cX12_allow 51 = .ok (.bipush 59, 2) := by decide +kernel
theorem dX12_allow_53 : decode cX12_allow 53 = .ok (.invokevirtual 344, 3) := by decide +kernel
theorem dX12_allow_56 : decode cX12_allow 56 = .ok (.ifCond .ne 5, 3) := by decide +kernel
theorem dX12_allow_59 : decode cX12_allow 59 = .ok (.iconst 0, 1) := by decide +kernel
theorem dX12_allow_60 : decode cX12_allow 60 = .ok (.ireturn, 1) := by decide +kernel
theorem dX12_allow_61 : decode cX12_allow 61 = .ok (.aload_n 0, 1) := by decide +kernel
theorem dX12_allow_62 : decode cX12_allow 62 = .ok (.iconst 0, 1) := by decide +kernel
theorem dX12_allow_63 : decode cX12_allow 63 = .ok (.putfield 311, 3) := by decide +kernel
theorem dX12_allow_66 : decode cX12_allow 66 = .ok (.aload_n 0, 1) := by decide +kernel
theorem dX12_allow_67 : decode cX12_allow 67 = .ok (.dup, 1) := by decide +kernel
theorem dX12_allow_68 : decode cX12_allow 68 = .ok (.getfield 392, 3) := by decide +kernel
theorem dX12_allow_71 : decode cX12_allow 71 = .ok (.iconst 1, 1) := by decide +kernel
theorem dX12_allow_72 : decode cX12_allow 72 = .ok (.iadd, 1) := by decide +kernel
theorem dX12_allow_73 : decode cX12_allow 73 = .ok (.putfield 392, 3) := by decide +kernel
theorem dX12_allow_76 : decode cX12_allow 76 = .ok (.iconst 1, 1) := by decide +kernel
theorem dX12_allow_77 : decode cX12_allow 77 = .ok (.ireturn, 1) := by decide +kernel
abbrev rm_f_X12_allow : Room := { frames := 113, cells := 0, slots := 0, locals := 6352 }
def f_X12_allow (N : Nat) (t : St) : Option (Int × St) :=
    lt1 (t.1 200 17) fun v1 =>
    cmpI v1 32 (if v1 = 32 then (bdI (f_X12_wrong N 5 t) fun v16 t15 =>
    boI v16 (some (v16, t15)))
    else (lt1 (pI t 200 36 1) fun t2 =>
    bdI (f_X12_takes N 3 t2) fun v4 t3 =>
    cmpI v4 0 (if v4 = 0 then (boI 0 (some (0, t3)))
    else (lt1 (t3.1 200 17) fun v5 =>
    lt1 (t3.1 200 33) fun v6 =>
    ixI v5 32 (lt1 (pI t3 30 v5.toNat v6) fun t7 =>
    bdI (f_X12_stepText N t7) fun v9 t8 =>
    cmpI v9 0 (if v9 = 0 then (boI 0 (some (0, t8)))
    else (bdI (f_X12_sign N 59 t8) fun v11 t10 =>
    cmpI v11 0 (if v11 = 0 then (boI 0 (some (0, t10)))
    else (lt1 (pI t10 200 36 0) fun t12 =>
    lt1 (t12.1 200 17) fun v13 =>
    lt1 (pI t12 200 17 (v13 + 1)) fun t14 =>
    boI 1 (some (1, t14)))))))))))
set_option maxHeartbeats 4000000 in
set_option maxRecDepth 100000 in
theorem b_f_X12_allow {p : Program} {l : Launch} {e : Env} {s : State} {m : MethodId} {args : Array Value} {below : List Frame} {meth : Method} {c : Code} {E : cE} {A : Nat → Prop} {r : Nat → Nat} {mc ms : Nat} {z : Int × St} {N : Nat} {t : St} (X : gX p s m meth c cX12_allow 1 (some .boolean) yX12_allow args E A) (h : f_X12_allow N t = some z) : gP p l e rm_f_X12_allow s m args below meth c E A 1 (MQ below ((gqI E (gW E r shM) z) A) args s mc ms A) (gW E r shM) 0 [(0, .ref (r 200))] [] t := by
  unfold f_X12_allow at h
  refine g_aload_n X dX12_allow_0 0 rfl ?_
  refine g_getI X fM_17 rfl dX12_allow_1 h (fun v1 h => ?_)
  refine g_bipush X dX12_allow_4 (by decide) ?_
  refine g_icmp_ne (tgt := 15) X dX12_allow_6 (by decide) h (fun h => ?_) (fun h => ?_)
  · refine g_aload_n X dX12_allow_15 0 rfl ?_
    refine g_iconst X dX12_allow_16 ?_
    refine g_putI X fM_36w rfl dX12_allow_17 h (fun t2 h => ?_)
    refine g_aload_n X dX12_allow_20 0 rfl ?_
    refine g_iconst X dX12_allow_21 ?_
    refine g_callI (rest := []) X (fun u9 h9 => cp_X12_takes l E r N 3 t2 u9 h9) yy_X12_takes yi_X12_takes wdM_RX12_329 0 12 (gW_at oM) rfl rfl rfl (Nat.le_of_ble_eq_true rfl) dX12_allow_22 ⟨by decide, by decide⟩ ⟨rfl, rfl⟩ h (fun v4 t3 h => ?_)
    refine g_if_ne (tgt := 30) X dX12_allow_25 (by decide) h (fun h => ?_) (fun h => ?_)
    · refine g_aload_n X dX12_allow_30 0 rfl ?_
      refine g_getR X fM_30 rfl dX12_allow_31 ?_
      refine g_aload_n X dX12_allow_34 0 rfl ?_
      refine g_getI X fM_17 rfl dX12_allow_35 h (fun v5 h => ?_)
      refine g_aload_n X dX12_allow_38 0 rfl ?_
      refine g_getI X fM_33 rfl dX12_allow_39 h (fun v6 h => ?_)
      refine g_iast X aM_30 dX12_allow_42 h (fun t7 h => ?_)
      refine g_aload_n X dX12_allow_43 0 rfl ?_
      refine g_callI (rest := []) X (fun u9 h9 => cp_X12_stepText l E r N t7 u9 h9) yy_X12_stepText yi_X12_stepText wdM_RX12_395 0 12 (gW_at oM) rfl rfl rfl (Nat.le_of_ble_eq_true rfl) dX12_allow_44 ⟨by decide, by decide⟩ ⟨rfl, rfl⟩ h (fun v9 t8 h => ?_)
      refine g_if_eq (tgt := 59) X dX12_allow_47 (by decide) h (fun h => ?_) (fun h => ?_)
      · refine g_iconst X dX12_allow_59 ?_
        exact g_zret X h dX12_allow_60
      · refine g_aload_n X dX12_allow_50 0 rfl ?_
        refine g_bipush X dX12_allow_51 (by decide) ?_
        refine g_callI (rest := []) X (fun u9 h9 => cp_X12_sign l E r N 59 t8 u9 h9) yy_X12_sign yi_X12_sign wdM_RX12_344 0 12 (gW_at oM) rfl rfl rfl (Nat.le_of_ble_eq_true rfl) dX12_allow_53 ⟨by decide, by decide⟩ ⟨rfl, rfl⟩ h (fun v11 t10 h => ?_)
        refine g_if_ne (tgt := 61) X dX12_allow_56 (by decide) h (fun h => ?_) (fun h => ?_)
        · refine g_aload_n X dX12_allow_61 0 rfl ?_
          refine g_iconst X dX12_allow_62 ?_
          refine g_putI X fM_36w rfl dX12_allow_63 h (fun t12 h => ?_)
          refine g_aload_n X dX12_allow_66 0 rfl ?_
          refine g_dup X rfl dX12_allow_67 ?_
          refine g_getI X fM_17 rfl dX12_allow_68 h (fun v13 h => ?_)
          refine g_iconst X dX12_allow_71 ?_
          refine g_iadd X dX12_allow_72 ?_
          refine g_putI X fM_17w rfl dX12_allow_73 h (fun t14 h => ?_)
          refine g_iconst X dX12_allow_76 ?_
          exact g_zret X h dX12_allow_77
        · refine g_iconst X dX12_allow_59 ?_
          exact g_zret X h dX12_allow_60
    · refine g_iconst X dX12_allow_28 ?_
      exact g_zret X h dX12_allow_29
  · refine g_aload_n X dX12_allow_9 0 rfl ?_
    refine g_iconst X dX12_allow_10 ?_
    refine g_callI (rest := []) X (fun u9 h9 => cp_X12_wrong l E r N 5 t u9 h9) yy_X12_wrong yi_X12_wrong wdM_RX12_317 0 12 (gW_at oM) rfl rfl rfl (Nat.le_of_ble_eq_true rfl) dX12_allow_11 ⟨by decide, by decide⟩ ⟨rfl, rfl⟩ h (fun v16 t15 h => ?_)
    exact g_zret X h dX12_allow_14
set_option maxHeartbeats 4000000 in
set_option maxRecDepth 100000 in
theorem cp_X12_allow (l : Launch) (E : cE) (r : Nat → Nat) (N : Nat) (t : St) (z : Int × St) (h : f_X12_allow N t = some z) : cM l E yX12_allow cX12_allow 1 (some .boolean) rm_f_X12_allow [.ref (r 200)] (gW E r shM t) (gqI E (gW E r shM) z) := by
  refine g_of (w := gW E r shM) (by decide) (Nat.le_of_ble_eq_true rfl) ?_
  intro p e s m below meth c A X
  exact g_sub (lv' := [(0, .ref (r 200))]) [0] rfl (b_f_X12_allow X h)
theorem yy_X12_allow : cY yX12_allow cX12_allow 1 (some .boolean) 0 := ⟨wdK_X12_allow, wdZ_RX12, by decide +kernel⟩
theorem yi_X12_allow : cYi yX12_allow := ⟨wdN_X12_allow, wdS_X12_allow⟩
theorem dX12_opensText_0 : decode cX12_opensText 0 = .ok (.aload_n 0, 1) := by decide +kernel
theorem dX12_opensText_1 : decode cX12_opensText 1 = .ok (.aload_n 0, 1) := by decide +kernel
theorem dX12_opensText_2 : decode cX12_opensText 2 = .ok (.getfield 258, 3) := by decide +kernel
theorem dX12_opensText_5 : decode cX12_opensText 5 = .ok (.putfield 261, 3) := by decide +kernel
theorem dX12_opensText_8 : decode cX12_opensText 8 = .ok (.aload_n 0, 1) := by decide +kernel
theorem dX12_opensText_9 : decode cX12_opensText 9 = .ok (.iconst 0, 1) := by decide +kernel
theorem dX12_opensText_10 : decode cX12_opensText 10 = .ok (.putfield 258, 3) := by decide +kernel
theorem dX12_opensText_13 : decode cX12_opensText 13 = .ok (.aload_n 0, 1) := by decide +kernel
theorem dX12_opensText_14 : decode cX12_opensText 14 = .ok (.iconst 0, 1) := by decide +kernel
theorem dX12_opensText_15 : decode cX12_opensText 15 = .ok (.putfield 264, 3) := by decide +kernel
theorem dX12_opensText_18 : decode cX12_opensText 18 = .ok (.aload_n 0, 1) := by decide +kernel
theorem dX12_opensText_19 : decode cX12_opensText 19 = .ok (.iconst 0, 1) := by decide +kernel
theorem dX12_opensText_20 : decode cX12_opensText 20 = .ok (.putfield 308, 3) := by decide +kernel
theorem dX12_opensText_23 : decode cX12_opensText 23 = .ok (.aload_n 0, 1) := by decide +kernel
theorem dX12_opensText_24 : decode cX12_opensText 24 = .ok (.iconst 0, 1) := by decide +kernel
theorem dX12_opensText_25 : decode cX12_opensText 25 = .ok (.putfield 338, 3) := by decide +kernel
theorem dX12_opensText_28 : decode cX12_opensText 28 = .ok (.aload_n 0, 1) := by decide +kernel
theorem dX12_opensText_29 : decode cX12_opensText 29 = .ok (.iconst 0, 1) := by decide +kernel
theorem dX12_opensText_30 : decode cX12_opensText 30 = .ok (.putfield 311, 3) := by decide +kernel
theorem dX12_opensText_33 : decode cX12_opensText 33 = .ok (.aload_n 0, 1) := by decide +kernel
theorem dX12_opensText_34 : decode cX12_opensText 34 = .ok (.iconst 0, 1) := by decide +kernel
theorem dX12_opensText_35 : decode cX12_opensText 35 = .ok (.putfield 320, 3) := by decide +kernel
theorem dX12_opensText_38 : decode cX12_opensText 38 = .ok (.aload_n 0, 1) := by decide +kernel
theorem dX12_opensText_39 : decode cX12_opensText 39 = .ok (.invokevirtual 323, 3) := by decide +kernel
theorem dX12_opensText_42 : decode cX12_opensText 42 = .ok (.return_, 1) := by decide +kernel
abbrev rm_f_X12_opensText : Room := { frames := 8, cells := 0, slots := 0, locals := 247 }
def f_X12_opensText (N : Nat) (t : St) : Option (St) :=
    lt1 (t.1 200 1) fun v1 =>
    lt1 (pI t 200 7 v1) fun t2 =>
    lt1 (pI t2 200 1 0) fun t3 =>
    lt1 (pI t3 200 2 0) fun t4 =>
    lt1 (pI t4 200 8 0) fun t5 =>
    lt1 (pI t5 200 35 0) fun t6 =>
    lt1 (pI t6 200 36 0) fun t7 =>
    lt1 (pI t7 200 34 0) fun t8 =>
    bdV (f_X12_next N t8) fun t9 =>
    some t9
set_option maxHeartbeats 4000000 in
set_option maxRecDepth 100000 in
theorem b_f_X12_opensText {p : Program} {l : Launch} {e : Env} {s : State} {m : MethodId} {args : Array Value} {below : List Frame} {meth : Method} {c : Code} {E : cE} {A : Nat → Prop} {r : Nat → Nat} {mc ms : Nat} {z : St} {N : Nat} {t : St} (X : gX p s m meth c cX12_opensText 1 none yX12_opensText args E A) (h : f_X12_opensText N t = some z) : gP p l e rm_f_X12_opensText s m args below meth c E A 1 (MQ below ((gqV E (gW E r shM) z) A) args s mc ms A) (gW E r shM) 0 [(0, .ref (r 200))] [] t := by
  unfold f_X12_opensText at h
  refine g_aload_n X dX12_opensText_0 0 rfl ?_
  refine g_aload_n X dX12_opensText_1 0 rfl ?_
  refine g_getI X fM_1 rfl dX12_opensText_2 h (fun v1 h => ?_)
  refine g_putI X fM_7w rfl dX12_opensText_5 h (fun t2 h => ?_)
  refine g_aload_n X dX12_opensText_8 0 rfl ?_
  refine g_iconst X dX12_opensText_9 ?_
  refine g_putI X fM_1w rfl dX12_opensText_10 h (fun t3 h => ?_)
  refine g_aload_n X dX12_opensText_13 0 rfl ?_
  refine g_iconst X dX12_opensText_14 ?_
  refine g_putI X fM_2w rfl dX12_opensText_15 h (fun t4 h => ?_)
  refine g_aload_n X dX12_opensText_18 0 rfl ?_
  refine g_iconst X dX12_opensText_19 ?_
  refine g_putI X fM_8w rfl dX12_opensText_20 h (fun t5 h => ?_)
  refine g_aload_n X dX12_opensText_23 0 rfl ?_
  refine g_iconst X dX12_opensText_24 ?_
  refine g_putI X fM_35w rfl dX12_opensText_25 h (fun t6 h => ?_)
  refine g_aload_n X dX12_opensText_28 0 rfl ?_
  refine g_iconst X dX12_opensText_29 ?_
  refine g_putI X fM_36w rfl dX12_opensText_30 h (fun t7 h => ?_)
  refine g_aload_n X dX12_opensText_33 0 rfl ?_
  refine g_iconst X dX12_opensText_34 ?_
  refine g_putI X fM_34w rfl dX12_opensText_35 h (fun t8 h => ?_)
  refine g_aload_n X dX12_opensText_38 0 rfl ?_
  refine g_callV (rest := []) X (fun u9 h9 => cp_X12_next l E r N t8 u9 h9) yy_X12_next yi_X12_next wdM_RX12_323 0 12 (gW_at oM) rfl rfl rfl (Nat.le_of_ble_eq_true rfl) dX12_opensText_39 ⟨by decide, by decide⟩ ⟨rfl, rfl⟩ h (fun t9 h => ?_)
  exact g_vret X h dX12_opensText_42
set_option maxHeartbeats 4000000 in
set_option maxRecDepth 100000 in
theorem cp_X12_opensText (l : Launch) (E : cE) (r : Nat → Nat) (N : Nat) (t : St) (z : St) (h : f_X12_opensText N t = some z) : cM l E yX12_opensText cX12_opensText 1 none rm_f_X12_opensText [.ref (r 200)] (gW E r shM t) (gqV E (gW E r shM) z) := by
  refine g_of (w := gW E r shM) (by decide) (Nat.le_of_ble_eq_true rfl) ?_
  intro p e s m below meth c A X
  exact g_sub (lv' := [(0, .ref (r 200))]) [0] rfl (b_f_X12_opensText X h)
theorem yy_X12_opensText : cY yX12_opensText cX12_opensText 1 none 0 := ⟨wdK_X12_opensText, wdZ_RX12, by decide +kernel⟩
theorem yi_X12_opensText : cYi yX12_opensText := ⟨wdN_X12_opensText, wdS_X12_opensText⟩
theorem dX12_load_0 : decode cX12_load 0 = .ok (.aload_n 0, 1) := by decide +kernel
theorem dX12_load_1 : decode cX12_load 1 = .ok (.getfield 347, 3) := by decide +kernel
theorem dX12_load_4 : decode cX12_load 4 = .ok (.istore_n 1, 1) := by decide +kernel
theorem dX12_load_5 : decode cX12_load 5 = .ok (.aload_n 0, 1) := by decide +kernel
theorem dX12_load_6 : decode cX12_load 6 = .ok (.getfield 362, 3) := by decide +kernel
theorem dX12_load_9 : decode cX12_load 9 = .ok (.istore_n 2, 1) := by decide +kernel
theorem dX12_load_10 : decode cX12_load 10 = .ok (.aload_n 0, 1) := by decide +kernel
theorem dX12_load_11 : decode cX12_load 11 = .ok (.getfield 375, 3) := by decide +kernel
theorem dX12_load_14 : decode cX12_load 14 = .ok (.istore_n 3, 1) := by decide +kernel
theorem dX12_load_15 : decode cX12_load 15 = .ok (.aload_n 0, 1) := by decide +kernel
theorem dX12_load_16 : decode cX12_load 16 = .ok (.getfield 386, 3) := by decide +kernel
theorem dX12_load_19 : decode cX12_load 19 = .ok (.istore 4, 2) := by decide +kernel
theorem dX12_load_21 : decode cX12_load 21 = .ok (.aload_n 0, 1) := by decide +kernel
theorem dX12_load_22 : decode cX12_load 22 = .ok (.getfield 392, 3) := by decide +kernel
theorem dX12_load_25 : decode cX12_load 25 = .ok (.istore 5, 2) := by decide +kernel
theorem dX12_load_27 : decode cX12_load 27 = .ok (.aload_n 0, 1) := by decide +kernel
theorem dX12_load_28 : decode cX12_load 28 = .ok (.getfield 314, 3) := by decide +kernel
theorem dX12_load_31 : decode cX12_load 31 = .ok (.istore 6, 2) := by decide +kernel
theorem dX12_load_33 : decode cX12_load 33 = .ok (.aload_n 0, 1) := by decide +kernel
theorem dX12_load_34 : decode cX12_load 34 = .ok (.invokevirtual 425, 3) := by decide +kernel
theorem dX12_load_37 : decode cX12_load 37 = .ok (.iconst 1, 1) := by decide +kernel
theorem dX12_load_38 : decode cX12_load 38 = .ok (.istore 7, 2) := by decide +kernel
theorem dX12_load_40 : decode cX12_load 40 = .ok (.iload 7, 2) := by decide +kernel
theorem dX12_load_42 : decode cX12_load 42 = .ok (.ifCond .eq 80, 3) := by decide +kernel
theorem dX12_load_45 : decode cX12_load 45 = .ok (.aload_n 0, 1) := by decide +kernel
theorem dX12_load_46 : decode cX12_load 46 = .ok (.getfield 278, 3) := by decide +kernel
theorem dX12_load_49 : decode cX12_load 49 = .ok (.ifCond .eq 73, 3) := by decide +kernel
theorem dX12_load_52 : decode cX12_load 52 = .ok (.aload_n 0, 1) := by decide +kernel
theorem dX12_load_53 : decode cX12_load 53 = .ok (.iconst 0, 1) := by decide +kernel
theorem dX12_load_54 : decode cX12_load 54 = .ok (.invokevirtual 326, 3) := by decide +kernel
theorem dX12_load_57 : decode cX12_load 57 = .ok (.ifCond .eq 10, 3) := by decide +kernel
theorem dX12_load_60 : decode cX12_load 60 = .ok (.aload_n 0, 1) := by decide +kernel
theorem dX12_load_61 : decode cX12_load 61 = .ok (.invokevirtual 428, 3) := by decide +kernel
theorem dX12_load_64 : decode cX12_load 64 = .ok (.goto 53, 3) := by decide +kernel
theorem dX12_load_67 : decode cX12_load 67 = .ok (.aload_n 0, 1) := by decide +kernel
theorem dX12_load_68 : decode cX12_load 68 = .ok (.iconst 1, 1) := by decide +kernel
theorem dX12_load_69 : decode cX12_load 69 = .ok (.invokevirtual 326, 3) := by decide +kernel
theorem dX12_load_72 : decode cX12_load 72 = .ok (.ifCond .eq 10, 3) := by decide +kernel
theorem dX12_load_75 : decode cX12_load 75 = .ok (.aload_n 0, 1) := by decide +kernel
theorem dX12_load_76 : decode cX12_load 76 = .ok (.invokevirtual 431, 3) := by decide +kernel
theorem dX12_load_79 : decode cX12_load 79 = .ok (.goto 38, 3) := by decide +kernel
theorem dX12_load_82 : decode cX12_load 82 = .ok (.aload_n 0, 1) := by decide +kernel
theorem dX12_load_83 : decode cX12_load 83 = .ok (.iconst 2, 1) := by decide +kernel
theorem dX12_load_84 : decode cX12_load 84 = .ok (.invokevirtual 326, 3) := by decide +kernel
theorem dX12_load_87 : decode cX12_load 87 = .ok (.ifCond .eq 10, 3) := by decide +kernel
theorem dX12_load_90 : decode cX12_load 90 = .ok (.aload_n 0, 1) := by decide +kernel
theorem dX12_load_91 : decode cX12_load 91 = .ok (.invokevirtual 434, 3) := by decide +kernel
theorem dX12_load_94 : decode cX12_load 94 = .ok (.goto 23, 3) := by decide +kernel
theorem dX12_load_97 : decode cX12_load 97 = .ok (.aload_n 0, 1) := by decide +kernel
theorem dX12_load_98 : decode cX12_load 98 = .ok (.iconst 3, 1) := by decide +kernel
theorem dX12_load_99 : decode cX12_load 99 = .ok (.invokevirtual 326, 3) := by decide +kernel
theorem dX12_load_102 : decode cX12_load 102 = .ok (.ifCond .eq 10, 3) := by decide +kernel
theorem dX12_load_105 : decode cX12_load 105 = .ok (.aload_n 0, 1) := by decide +kernel
theorem dX12_load_106 : decode cX12_load 106 = .ok (.invokevirtual 437, 3) := by decide +kernel
theorem dX12_load_109 : decode cX12_load 109 = .ok (.goto 8, 3) := by decide +kernel
theorem dX12_load_112 : decode cX12_load 112 = .ok (.aload_n 0, 1) := by decide +kernel
theorem dX12_load_113 : decode cX12_load 113 = .ok (.iconst 1, 1) := by decide +kernel
theorem dX12_load_114 : decode cX12_load 114 = .ok (.invokevirtual 317, 3) := by decide +kernel
theorem dX12_load_117 : decode cX12_load 117 = .ok (.istore 7, 2) := by decide +kernel
theorem dX12_load_119 : decode cX12_load 119 = .ok (.goto (-79), 3) := by decide +kernel
theorem dX12_load_122 : decode cX12_load 122 = .ok (.iload 7, 2) := by decide +kernel
theorem dX12_load_124 : decode cX12_load 124 = .ok (.ifCond .eq 5, 3) := by decide +kernel
theorem dX12_load_127 : decode cX12_load 127 = .ok (.iconst 0, 1) := by decide +kernel
theorem dX12_load_128 : decode cX12_load 128 = .ok (.ireturn, 1) := by decide +kernel
theorem dX12_load_129 : decode cX12_load 129 = .ok (.aload_n 0, 1) := by decide +kernel
theorem dX12_load_130 : decode cX12_load 130 = .ok (.iload_n 1, 1) := by decide +kernel
theorem dX12_load_131 : decode cX12_load 131 = .ok (.putfield 347, 3) := by decide +kernel
theorem dX12_load_134 : decode cX12_load 134 = .ok (.aload_n 0, 1) := by decide +kernel
theorem dX12_load_135 : decode cX12_load 135 = .ok (.iload_n 2, 1) := by decide +kernel
theorem dX12_load_136 : decode cX12_load 136 = .ok (.putfield 362, 3) := by decide +kernel
theorem dX12_load_139 : decode cX12_load 139 = .ok (.aload_n 0, 1) := by decide +kernel
theorem dX12_load_140 : decode cX12_load 140 = .ok (.iload_n 3, 1) := by decide +kernel
theorem dX12_load_141 : decode cX12_load 141 = .ok (.putfield 375, 3) := by decide +kernel
theorem dX12_load_144 : decode cX12_load 144 = .ok (.aload_n 0, 1) := by decide +kernel
theorem dX12_load_145 : decode cX12_load 145 = .ok (.iload 4, 2) := by decide +kernel
theorem dX12_load_147 : decode cX12_load 147 = .ok (.putfield 386, 3) := by decide +kernel
theorem dX12_load_150 : decode cX12_load 150 = .ok (.aload_n 0, 1) := by decide +kernel
theorem dX12_load_151 : decode cX12_load 151 = .ok (.iload 5, 2) := by decide +kernel
theorem dX12_load_153 : decode cX12_load 153 = .ok (.putfield 392, 3) := by decide +kernel
theorem dX12_load_156 : decode cX12_load 156 = .ok (.aload_n 0, 1) := by decide +kernel
theorem dX12_load_157 : decode cX12_load 157 = .ok (.iload 6, 2) := by decide +kernel
theorem dX12_load_159 : decode cX12_load 159 = .ok (.putfield 314, 3) := by decide +kernel
theorem dX12_load_162 : decode cX12_load 162 = .ok (.bipush (-2), 2) := by decide +kernel
theorem dX12_load_164 : decode cX12_load 164 = .ok (.aload_n 0, 1) := by decide +kernel
theorem dX12_load_165 : decode cX12_load 165 = .ok (.getfield 275, 3) := by decide +kernel
theorem dX12_load_168 : decode cX12_load 168 = .ok (.isub, 1) := by decide +kernel
theorem dX12_load_169 : decode cX12_load 169 = .ok (.ireturn, 1) := by decide +kernel
abbrev rm_f_X12_load : Room := { frames := 315, cells := 0, slots := 0, locals := 18393 }
def f_X12_load_L40 (N : Nat) (K16 : (Int → St → Option (Int × St))) : Nat → Int → St → Option (Int × St)
  | 0, _, _ => none
  | n9 + 1, x14, t15 =>
    cmpI x14 0 (if x14 = 0 then (K16 x14 t15)
    else (lt1 (t15.1 200 3) fun v17 =>
    cmpI v17 0 (if v17 = 0 then (K16 x14 t15)
    else (bdI (f_X12_isKey N 0 t15) fun v19 t18 =>
    jn1 (fun (j20 : Int) (t21 : St) => f_X12_load_L40 N K16 n9 j20 t21) fun J22 =>
    cmpI v19 0 (if v19 = 0 then (bdI (f_X12_isKey N 1 t18) fun v24 t23 =>
    cmpI v24 0 (if v24 = 0 then (bdI (f_X12_isKey N 2 t23) fun v26 t25 =>
    cmpI v26 0 (if v26 = 0 then (bdI (f_X12_isKey N 3 t25) fun v28 t27 =>
    cmpI v28 0 (if v28 = 0 then (bdI (f_X12_wrong N 1 t27) fun v30 t29 =>
    J22 v30 t29)
    else (bdI (f_X12_allow N t27) fun v32 t31 =>
    J22 v32 t31)))
    else (bdI (f_X12_part N t25) fun v34 t33 =>
    J22 v34 t33)))
    else (bdI (f_X12_figure N t23) fun v36 t35 =>
    J22 v36 t35)))
    else (bdI (f_X12_form N t18) fun v38 t37 =>
    J22 v38 t37))))))
def f_X12_load (N : Nat) (t : St) : Option (Int × St) :=
    lt1 (t.1 200 13) fun v1 =>
    lt1 (t.1 200 14) fun v2 =>
    lt1 (t.1 200 15) fun v3 =>
    lt1 (t.1 200 16) fun v4 =>
    lt1 (t.1 200 17) fun v5 =>
    lt1 (t.1 200 33) fun v6 =>
    bdV (f_X12_opensText N t) fun t7 =>
    f_X12_load_L40 N (fun (k39 : Int) (t40 : St) => cmpI k39 0 (if k39 = 0 then (lt1 (pI t40 200 13 v1) fun t41 =>
    lt1 (pI t41 200 14 v2) fun t42 =>
    lt1 (pI t42 200 15 v3) fun t43 =>
    lt1 (pI t43 200 16 v4) fun t44 =>
    lt1 (pI t44 200 17 v5) fun t45 =>
    lt1 (pI t45 200 33 v6) fun t46 =>
    lt1 (t46.1 200 4) fun v47 =>
    some ((-2) - v47, t46))
    else (some (0, t40)))) N 1 t7
set_option maxHeartbeats 4000000 in
set_option maxRecDepth 100000 in
theorem t_f_X12_load_L40 {p : Program} {l : Launch} {e : Env} {s : State} {m : MethodId} {args : Array Value} {below : List Frame} {meth : Method} {c : Code} {E : cE} {A : Nat → Prop} {r : Nat → Nat} {mc ms : Nat} {z : Int × St} {N : Nat} {K16 : (Int → St → Option (Int × St))} {y8 : Int} {y9 : Int} {y10 : Int} {y11 : Int} {y12 : Int} {y13 : Int} (X : gX p s m meth c cX12_load 8 (some .int) yX12_load args E A) (hK16 : ∀ (q7 : Int) (t9 : St), K16 q7 t9 = some z → gP p l e rm_f_X12_load s m args below meth c E A 8 (MQ below ((gqI E (gW E r shM) z) A) args s mc ms A) (gW E r shM) 122 [(0, .ref (r 200)), (1, iv y8), (2, iv y9), (3, iv y10), (4, iv y11), (5, iv y12), (6, iv y13), (7, iv q7)] [] t9) : ∀ (n9 : Nat) (x14 : Int) (t15 : St), f_X12_load_L40 N K16 n9 x14 t15 = some z → gP p l e rm_f_X12_load s m args below meth c E A 8 (MQ below ((gqI E (gW E r shM) z) A) args s mc ms A) (gW E r shM) 40 [(0, .ref (r 200)), (1, iv y8), (2, iv y9), (3, iv y10), (4, iv y11), (5, iv y12), (6, iv y13), (7, iv x14)] [] t15 := by
  intro n9
  induction n9 with
  | zero => intro x14 t15 h; cases h
  | succ n9 ih =>
    intro x14 t15 h
    unfold f_X12_load_L40 at h
    refine g_iload X dX12_load_40 7 rfl ?_
    refine g_if_eq (tgt := 122) X dX12_load_42 (by decide) h (fun h => ?_) (fun h => ?_)
    · exact g_sub (lv' := [(0, .ref (r 200)), (1, iv y8), (2, iv y9), (3, iv y10), (4, iv y11), (5, iv y12), (6, iv y13), (7, iv x14)]) [0, 1, 2, 3, 4, 5, 6, 7] rfl (hK16 x14 t15 h)
    · refine g_aload_n X dX12_load_45 0 rfl ?_
      refine g_getI X fM_3 rfl dX12_load_46 h (fun v17 h => ?_)
      refine g_if_eq (tgt := 122) X dX12_load_49 (by decide) h (fun h => ?_) (fun h => ?_)
      · exact g_sub (lv' := [(0, .ref (r 200)), (1, iv y8), (2, iv y9), (3, iv y10), (4, iv y11), (5, iv y12), (6, iv y13), (7, iv x14)]) [0, 1, 2, 3, 4, 5, 6, 7] rfl (hK16 x14 t15 h)
      · refine g_aload_n X dX12_load_52 0 rfl ?_
        refine g_iconst X dX12_load_53 ?_
        refine g_callI (rest := []) X (fun u9 h9 => cp_X12_isKey l E r N 0 t15 u9 h9) yy_X12_isKey yi_X12_isKey wdM_RX12_326 0 12 (gW_at oM) rfl rfl rfl (Nat.le_of_ble_eq_true rfl) dX12_load_54 ⟨by decide, by decide⟩ ⟨rfl, rfl⟩ h (fun v19 t18 h => ?_)
        refine g_join (J := fun jj => ∀ (j20 : Int) (t21 : St), jj j20 t21 = some z → gP p l e rm_f_X12_load s m args below meth c E A 8 (MQ below ((gqI E (gW E r shM) z) A) args s mc ms A) (gW E r shM) 117 [(0, .ref (r 200)), (1, iv y8), (2, iv y9), (3, iv y10), (4, iv y11), (5, iv y12), (6, iv y13)] [iv j20] t21) h (fun j20 t21 h => ?_) (fun J22 hJ22 h => ?_)
        · refine g_istore (lv' := [(7, iv j20), (0, .ref (r 200)), (1, iv y8), (2, iv y9), (3, iv y10), (4, iv y11), (5, iv y12), (6, iv y13)]) X dX12_load_117 (by decide) rfl ?_
          refine g_goto (tgt := 40) X dX12_load_119 (by decide) ?_
          exact g_sub (lv' := [(0, .ref (r 200)), (1, iv y8), (2, iv y9), (3, iv y10), (4, iv y11), (5, iv y12), (6, iv y13), (7, iv j20)]) [1, 2, 3, 4, 5, 6, 7, 0] rfl (ih j20 t21 h)
        refine g_if_eq (tgt := 67) X dX12_load_57 (by decide) h (fun h => ?_) (fun h => ?_)
        · refine g_aload_n X dX12_load_67 0 rfl ?_
          refine g_iconst X dX12_load_68 ?_
          refine g_callI (rest := []) X (fun u9 h9 => cp_X12_isKey l E r N 1 t18 u9 h9) yy_X12_isKey yi_X12_isKey wdM_RX12_326 0 12 (gW_at oM) rfl rfl rfl (Nat.le_of_ble_eq_true rfl) dX12_load_69 ⟨by decide, by decide⟩ ⟨rfl, rfl⟩ h (fun v24 t23 h => ?_)
          refine g_if_eq (tgt := 82) X dX12_load_72 (by decide) h (fun h => ?_) (fun h => ?_)
          · refine g_aload_n X dX12_load_82 0 rfl ?_
            refine g_iconst X dX12_load_83 ?_
            refine g_callI (rest := []) X (fun u9 h9 => cp_X12_isKey l E r N 2 t23 u9 h9) yy_X12_isKey yi_X12_isKey wdM_RX12_326 0 12 (gW_at oM) rfl rfl rfl (Nat.le_of_ble_eq_true rfl) dX12_load_84 ⟨by decide, by decide⟩ ⟨rfl, rfl⟩ h (fun v26 t25 h => ?_)
            refine g_if_eq (tgt := 97) X dX12_load_87 (by decide) h (fun h => ?_) (fun h => ?_)
            · refine g_aload_n X dX12_load_97 0 rfl ?_
              refine g_iconst X dX12_load_98 ?_
              refine g_callI (rest := []) X (fun u9 h9 => cp_X12_isKey l E r N 3 t25 u9 h9) yy_X12_isKey yi_X12_isKey wdM_RX12_326 0 12 (gW_at oM) rfl rfl rfl (Nat.le_of_ble_eq_true rfl) dX12_load_99 ⟨by decide, by decide⟩ ⟨rfl, rfl⟩ h (fun v28 t27 h => ?_)
              refine g_if_eq (tgt := 112) X dX12_load_102 (by decide) h (fun h => ?_) (fun h => ?_)
              · refine g_aload_n X dX12_load_112 0 rfl ?_
                refine g_iconst X dX12_load_113 ?_
                refine g_callI (rest := []) X (fun u9 h9 => cp_X12_wrong l E r N 1 t27 u9 h9) yy_X12_wrong yi_X12_wrong wdM_RX12_317 0 12 (gW_at oM) rfl rfl rfl (Nat.le_of_ble_eq_true rfl) dX12_load_114 ⟨by decide, by decide⟩ ⟨rfl, rfl⟩ h (fun v30 t29 h => ?_)
                exact g_sub (lv' := [(0, .ref (r 200)), (1, iv y8), (2, iv y9), (3, iv y10), (4, iv y11), (5, iv y12), (6, iv y13)]) [0, 1, 2, 3, 4, 5, 6] rfl (hJ22 v30 t29 h)
              · refine g_aload_n X dX12_load_105 0 rfl ?_
                refine g_callI (rest := []) X (fun u9 h9 => cp_X12_allow l E r N t27 u9 h9) yy_X12_allow yi_X12_allow wdM_RX12_437 0 12 (gW_at oM) rfl rfl rfl (Nat.le_of_ble_eq_true rfl) dX12_load_106 ⟨by decide, by decide⟩ ⟨rfl, rfl⟩ h (fun v32 t31 h => ?_)
                refine g_goto (tgt := 117) X dX12_load_109 (by decide) ?_
                exact g_sub (lv' := [(0, .ref (r 200)), (1, iv y8), (2, iv y9), (3, iv y10), (4, iv y11), (5, iv y12), (6, iv y13)]) [0, 1, 2, 3, 4, 5, 6] rfl (hJ22 v32 t31 h)
            · refine g_aload_n X dX12_load_90 0 rfl ?_
              refine g_callI (rest := []) X (fun u9 h9 => cp_X12_part l E r N t25 u9 h9) yy_X12_part yi_X12_part wdM_RX12_434 0 12 (gW_at oM) rfl rfl rfl (Nat.le_of_ble_eq_true rfl) dX12_load_91 ⟨by decide, by decide⟩ ⟨rfl, rfl⟩ h (fun v34 t33 h => ?_)
              refine g_goto (tgt := 117) X dX12_load_94 (by decide) ?_
              exact g_sub (lv' := [(0, .ref (r 200)), (1, iv y8), (2, iv y9), (3, iv y10), (4, iv y11), (5, iv y12), (6, iv y13)]) [0, 1, 2, 3, 4, 5, 6] rfl (hJ22 v34 t33 h)
          · refine g_aload_n X dX12_load_75 0 rfl ?_
            refine g_callI (rest := []) X (fun u9 h9 => cp_X12_figure l E r N t23 u9 h9) yy_X12_figure yi_X12_figure wdM_RX12_431 0 12 (gW_at oM) rfl rfl rfl (Nat.le_of_ble_eq_true rfl) dX12_load_76 ⟨by decide, by decide⟩ ⟨rfl, rfl⟩ h (fun v36 t35 h => ?_)
            refine g_goto (tgt := 117) X dX12_load_79 (by decide) ?_
            exact g_sub (lv' := [(0, .ref (r 200)), (1, iv y8), (2, iv y9), (3, iv y10), (4, iv y11), (5, iv y12), (6, iv y13)]) [0, 1, 2, 3, 4, 5, 6] rfl (hJ22 v36 t35 h)
        · refine g_aload_n X dX12_load_60 0 rfl ?_
          refine g_callI (rest := []) X (fun u9 h9 => cp_X12_form l E r N t18 u9 h9) yy_X12_form yi_X12_form wdM_RX12_428 0 12 (gW_at oM) rfl rfl rfl (Nat.le_of_ble_eq_true rfl) dX12_load_61 ⟨by decide, by decide⟩ ⟨rfl, rfl⟩ h (fun v38 t37 h => ?_)
          refine g_goto (tgt := 117) X dX12_load_64 (by decide) ?_
          exact g_sub (lv' := [(0, .ref (r 200)), (1, iv y8), (2, iv y9), (3, iv y10), (4, iv y11), (5, iv y12), (6, iv y13)]) [0, 1, 2, 3, 4, 5, 6] rfl (hJ22 v38 t37 h)
set_option maxHeartbeats 4000000 in
set_option maxRecDepth 100000 in
theorem b_f_X12_load {p : Program} {l : Launch} {e : Env} {s : State} {m : MethodId} {args : Array Value} {below : List Frame} {meth : Method} {c : Code} {E : cE} {A : Nat → Prop} {r : Nat → Nat} {mc ms : Nat} {z : Int × St} {N : Nat} {t : St} (X : gX p s m meth c cX12_load 8 (some .int) yX12_load args E A) (h : f_X12_load N t = some z) : gP p l e rm_f_X12_load s m args below meth c E A 8 (MQ below ((gqI E (gW E r shM) z) A) args s mc ms A) (gW E r shM) 0 [(0, .ref (r 200))] [] t := by
  unfold f_X12_load at h
  refine g_aload_n X dX12_load_0 0 rfl ?_
  refine g_getI X fM_13 rfl dX12_load_1 h (fun v1 h => ?_)
  refine g_istore_n (lv' := [(1, iv v1), (0, .ref (r 200))]) X dX12_load_4 rfl (by decide) rfl ?_
  refine g_aload_n X dX12_load_5 1 rfl ?_
  refine g_getI X fM_14 rfl dX12_load_6 h (fun v2 h => ?_)
  refine g_istore_n (lv' := [(2, iv v2), (1, iv v1), (0, .ref (r 200))]) X dX12_load_9 rfl (by decide) rfl ?_
  refine g_aload_n X dX12_load_10 2 rfl ?_
  refine g_getI X fM_15 rfl dX12_load_11 h (fun v3 h => ?_)
  refine g_istore_n (lv' := [(3, iv v3), (2, iv v2), (1, iv v1), (0, .ref (r 200))]) X dX12_load_14 rfl (by decide) rfl ?_
  refine g_aload_n X dX12_load_15 3 rfl ?_
  refine g_getI X fM_16 rfl dX12_load_16 h (fun v4 h => ?_)
  refine g_istore (lv' := [(4, iv v4), (3, iv v3), (2, iv v2), (1, iv v1), (0, .ref (r 200))]) X dX12_load_19 (by decide) rfl ?_
  refine g_aload_n X dX12_load_21 4 rfl ?_
  refine g_getI X fM_17 rfl dX12_load_22 h (fun v5 h => ?_)
  refine g_istore (lv' := [(5, iv v5), (4, iv v4), (3, iv v3), (2, iv v2), (1, iv v1), (0, .ref (r 200))]) X dX12_load_25 (by decide) rfl ?_
  refine g_aload_n X dX12_load_27 5 rfl ?_
  refine g_getI X fM_33 rfl dX12_load_28 h (fun v6 h => ?_)
  refine g_istore (lv' := [(6, iv v6), (5, iv v5), (4, iv v4), (3, iv v3), (2, iv v2), (1, iv v1), (0, .ref (r 200))]) X dX12_load_31 (by decide) rfl ?_
  refine g_aload_n X dX12_load_33 6 rfl ?_
  refine g_callV (rest := []) X (fun u9 h9 => cp_X12_opensText l E r N t u9 h9) yy_X12_opensText yi_X12_opensText wdM_RX12_425 0 12 (gW_at oM) rfl rfl rfl (Nat.le_of_ble_eq_true rfl) dX12_load_34 ⟨by decide, by decide⟩ ⟨rfl, rfl⟩ h (fun t7 h => ?_)
  refine g_iconst X dX12_load_37 ?_
  refine g_istore (lv' := [(7, iv 1), (6, iv v6), (5, iv v5), (4, iv v4), (3, iv v3), (2, iv v2), (1, iv v1), (0, .ref (r 200))]) X dX12_load_38 (by decide) rfl ?_
  refine g_sub (lv' := [(0, .ref (r 200)), (1, iv v1), (2, iv v2), (3, iv v3), (4, iv v4), (5, iv v5), (6, iv v6), (7, iv 1)]) [7, 6, 5, 4, 3, 2, 1, 0] rfl (t_f_X12_load_L40 X (fun k39 t40 h => ?_) N 1 t7 h)
  · refine g_iload X dX12_load_122 7 rfl ?_
    refine g_if_eq (tgt := 129) X dX12_load_124 (by decide) h (fun h => ?_) (fun h => ?_)
    · refine g_aload_n X dX12_load_129 0 rfl ?_
      refine g_iload_n X dX12_load_130 1 rfl ?_
      refine g_putI X fM_13w rfl dX12_load_131 h (fun t41 h => ?_)
      refine g_aload_n X dX12_load_134 0 rfl ?_
      refine g_iload_n X dX12_load_135 2 rfl ?_
      refine g_putI X fM_14w rfl dX12_load_136 h (fun t42 h => ?_)
      refine g_aload_n X dX12_load_139 0 rfl ?_
      refine g_iload_n X dX12_load_140 3 rfl ?_
      refine g_putI X fM_15w rfl dX12_load_141 h (fun t43 h => ?_)
      refine g_aload_n X dX12_load_144 0 rfl ?_
      refine g_iload X dX12_load_145 4 rfl ?_
      refine g_putI X fM_16w rfl dX12_load_147 h (fun t44 h => ?_)
      refine g_aload_n X dX12_load_150 0 rfl ?_
      refine g_iload X dX12_load_151 5 rfl ?_
      refine g_putI X fM_17w rfl dX12_load_153 h (fun t45 h => ?_)
      refine g_aload_n X dX12_load_156 0 rfl ?_
      refine g_iload X dX12_load_157 6 rfl ?_
      refine g_putI X fM_33w rfl dX12_load_159 h (fun t46 h => ?_)
      refine g_bipush X dX12_load_162 (by decide) ?_
      refine g_aload_n X dX12_load_164 0 rfl ?_
      refine g_getI X fM_4 rfl dX12_load_165 h (fun v47 h => ?_)
      refine g_isub X dX12_load_168 ?_
      exact g_iret X h dX12_load_169
    · refine g_iconst X dX12_load_127 ?_
      exact g_iret X h dX12_load_128
set_option maxHeartbeats 4000000 in
set_option maxRecDepth 100000 in
theorem cp_X12_load (l : Launch) (E : cE) (r : Nat → Nat) (N : Nat) (t : St) (z : Int × St) (h : f_X12_load N t = some z) : cM l E yX12_load cX12_load 8 (some .int) rm_f_X12_load [.ref (r 200)] (gW E r shM t) (gqI E (gW E r shM) z) := by
  refine g_of (w := gW E r shM) (by decide) (Nat.le_of_ble_eq_true rfl) ?_
  intro p e s m below meth c A X
  exact g_sub (lv' := [(0, .ref (r 200))]) [0] rfl (b_f_X12_load X h)
theorem yy_X12_load : cY yX12_load cX12_load 8 (some .int) 0 := ⟨wdK_X12_load, wdZ_RX12, by decide +kernel⟩
theorem yi_X12_load : cYi yX12_load := ⟨wdN_X12_load, wdS_X12_load⟩
theorem dX12_named_0 : decode cX12_named 0 = .ok (.aload_n 0, 1) := by decide +kernel
theorem dX12_named_1 : decode cX12_named 1 = .ok (.invokevirtual 425, 3) := by decide +kernel
theorem dX12_named_4 : decode cX12_named 4 = .ok (.aload_n 0, 1) := by decide +kernel
theorem dX12_named_5 : decode cX12_named 5 = .ok (.getfield 278, 3) := by decide +kernel
theorem dX12_named_8 : decode cX12_named 8 = .ok (.iconst 2, 1) := by decide +kernel
theorem dX12_named_9 : decode cX12_named 9 = .ok (.if_icmp .ne 10, 3) := by decide +kernel
theorem dX12_named_12 : decode cX12_named 12 = .ok (.aload_n 0, 1) := by decide +kernel
theorem dX12_named_13 : decode cX12_named 13 = .ok (.invokevirtual 350, 3) := by decide +kernel
theorem dX12_named_16 : decode cX12_named 16 = .ok (.goto 4, 3) := by decide +kernel
theorem dX12_named_19 : decode cX12_named 19 = .ok (.iconst (-1), 1) := by decide +kernel
theorem dX12_named_20 : decode cX12_named 20 = .ok (.istore_n 2, 1) := by decide +kernel
theorem dX12_named_21 : decode cX12_named 21 = .ok (.aload_n 0, 1) := by decide +kernel
theorem dX12_named_22 : decode cX12_named 22 = .ok (.getfield 278, 3) := by decide +kernel
theorem dX12_named_25 : decode cX12_named 25 = .ok (.iconst 2, 1) := by decide +kernel
theorem dX12_named_26 : decode cX12_named 26 = .ok (.if_icmp .ne 7, 3) := by decide +kernel
theorem dX12_named_29 : decode cX12_named 29 = .ok (.iconst 1, 1) := by decide +kernel
theorem dX12_named_30 : decode cX12_named 30 = .ok (.goto 4, 3) := by decide +kernel
theorem dX12_named_33 : decode cX12_named 33 = .ok (.iconst 0, 1) := by decide +kernel
theorem dX12_named_34 : decode cX12_named 34 = .ok (.istore_n 3, 1) := by decide +kernel
theorem dX12_named_35 : decode cX12_named 35 = .ok (.aload_n 0, 1) := by decide +kernel
theorem dX12_named_36 : decode cX12_named 36 = .ok (.invokevirtual 323, 3) := by decide +kernel
theorem dX12_named_39 : decode cX12_named 39 = .ok (.iload_n 3, 1) := by decide +kernel
theorem dX12_named_40 : decode cX12_named 40 = .ok (.ifCond .eq 14, 3) := by decide +kernel
theorem dX12_named_43 : decode cX12_named 43 = .ok (.aload_n 0, 1) := by decide +kernel
theorem dX12_named_44 : decode cX12_named 44 = .ok (.getfield 278, 3) := by decide +kernel
theorem dX12_named_47 : decode cX12_named 47 = .ok (.ifCond .ne 7, 3) := by decide +kernel
theorem dX12_named_50 : decode cX12_named 50 = .ok (.iconst 1, 1) := by decide +kernel
theorem dX12_named_51 : decode cX12_named 51 = .ok (.goto 4, 3) := by decide +kernel
theorem dX12_named_54 : decode cX12_named 54 = .ok (.iconst 0, 1) := by decide +kernel
theorem dX12_named_55 : decode cX12_named 55 = .ok (.istore_n 3, 1) := by decide +kernel
theorem dX12_named_56 : decode cX12_named 56 = .ok (.iload_n 3, 1) := by decide +kernel
theorem dX12_named_57 : decode cX12_named 57 = .ok (.ifCond .ne 10, 3) := by decide +kernel
theorem dX12_named_60 : decode cX12_named 60 = .ok (.aload_n 0, 1) := by decide +kernel
theorem dX12_named_61 : decode cX12_named 61 = .ok (.iconst 1, 1) := by decide +kernel
theorem dX12_named_62 : decode cX12_named 62 = .ok (.putfield 308, 3) := by decide +kernel
theorem dX12_named_65 : decode cX12_named 65 = .ok (.iconst (-1), 1) := by decide +kernel
theorem dX12_named_66 : decode cX12_named 66 = .ok (.ireturn, 1) := by decide +kernel
theorem dX12_named_67 : decode cX12_named 67 = .ok (.iload_n 2, 1) := by decide +kernel
theorem dX12_named_68 : decode cX12_named 68 = .ok (.iconst (-1), 1) := by decide +kernel
theorem dX12_named_69 : decode cX12_named 69 = .ok (.if_icmp .eq 22, 3) := by decide +kernel
theorem dX12_named_72 : decode cX12_named 72 = .ok (.aload_n 0, 1) := by decide +kernel
theorem dX12_named_73 : decode cX12_named 73 = .ok (.getfield 20, 3) := by decide +kernel
theorem dX12_named_76 : decode cX12_named 76 = .ok (.iload_n 2, 1) := by decide +kernel
theorem dX12_named_77 : decode cX12_named 77 = .ok (.iaload, 1) := by decide +kernel
theorem dX12_named_78 : decode cX12_named 78 = .ok (.iload_n 1, 1) := by decide +kernel
theorem dX12_named_79 : decode cX12_named 79 = .ok (.if_icmp .ne 12, 3) := by decide +kernel
theorem dX12_named_82 : decode cX12_named 82 = .ok (.aload_n 0, 1) := by decide +kernel
theorem dX12_named_83 : decode cX12_named 83 = .ok (.getfield 23, 3) := by decide +kernel
theorem dX12_named_86 : decode cX12_named 86 = .ok (.iload_n 2, 1) := by decide +kernel
theorem dX12_named_87 : decode cX12_named 87 = .ok (.iaload, 1) := by decide +kernel
theorem dX12_named_88 : decode cX12_named 88 = .ok (.goto 4, 3) := by decide +kernel
theorem dX12_named_91 : decode cX12_named 91 = .ok (.iconst (-1), 1) := by decide +kernel
theorem dX12_named_92 : decode cX12_named 92 = .ok (.ireturn, 1) := by decide +kernel
abbrev rm_f_X12_named : Room := { frames := 9, cells := 0, slots := 0, locals := 267 }
def f_X12_named (N : Nat) (a0 : Int) (t : St) : Option (Int × St) :=
    bdV (f_X12_opensText N t) fun t1 =>
    lt1 (t1.1 200 3) fun v2 =>
    jn1 (fun (j3 : Int) (t4 : St) => lt1 (t4.1 200 3) fun v6 =>
    jn1 (fun (j7 : Int) (t8 : St) => bdV (f_X12_next N t8) fun t10 =>
    jn1 (fun (j11 : Int) (t12 : St) => cmpI j11 0 (if j11 = 0 then (lt1 (pI t12 200 8 1) fun t16 =>
    some ((-1), t16))
    else (cmpI j3 (-1) (if j3 = (-1) then (some ((-1), t12))
    else (ixI j3 200 (lt1 (t12.1 11 j3.toNat) fun v14 =>
    cmpI v14 a0 (if v14 = a0 then (ixI j3 200 (lt1 (t12.1 12 j3.toNat) fun v15 =>
    some (v15, t12)))
    else (some ((-1), t12))))))))) fun J13 =>
    jn1 (fun (t17 : St) => J13 0 t17) fun J18 =>
    cmpI j7 0 (if j7 = 0 then (J18 t10)
    else (lt1 (t10.1 200 3) fun v19 =>
    cmpI v19 0 (if v19 = 0 then (J13 1 t10)
    else (J18 t10))))) fun J9 =>
    cmpI v6 2 (if v6 = 2 then (J9 1 t4)
    else (J9 0 t4))) fun J5 =>
    cmpI v2 2 (if v2 = 2 then (bdI (f_X12_nameAt N t1) fun v21 t20 =>
    J5 v21 t20)
    else (J5 (-1) t1))
set_option maxHeartbeats 4000000 in
set_option maxRecDepth 100000 in
theorem b_f_X12_named {p : Program} {l : Launch} {e : Env} {s : State} {m : MethodId} {args : Array Value} {below : List Frame} {meth : Method} {c : Code} {E : cE} {A : Nat → Prop} {r : Nat → Nat} {mc ms : Nat} {z : Int × St} {N : Nat} {a0 : Int} {t : St} (X : gX p s m meth c cX12_named 4 (some .int) yX12_named args E A) (h : f_X12_named N a0 t = some z) : gP p l e rm_f_X12_named s m args below meth c E A 4 (MQ below ((gqI E (gW E r shM) z) A) args s mc ms A) (gW E r shM) 0 [(0, .ref (r 200)), (1, iv a0)] [] t := by
  unfold f_X12_named at h
  refine g_aload_n X dX12_named_0 0 rfl ?_
  refine g_callV (rest := []) X (fun u9 h9 => cp_X12_opensText l E r N t u9 h9) yy_X12_opensText yi_X12_opensText wdM_RX12_425 0 12 (gW_at oM) rfl rfl rfl (Nat.le_of_ble_eq_true rfl) dX12_named_1 ⟨by decide, by decide⟩ ⟨rfl, rfl⟩ h (fun t1 h => ?_)
  refine g_aload_n X dX12_named_4 0 rfl ?_
  refine g_getI X fM_3 rfl dX12_named_5 h (fun v2 h => ?_)
  refine g_iconst X dX12_named_8 ?_
  refine g_join (J := fun jj => ∀ (j3 : Int) (t4 : St), jj j3 t4 = some z → gP p l e rm_f_X12_named s m args below meth c E A 4 (MQ below ((gqI E (gW E r shM) z) A) args s mc ms A) (gW E r shM) 20 [(0, .ref (r 200)), (1, iv a0)] [iv j3] t4) h (fun j3 t4 h => ?_) (fun J5 hJ5 h => ?_)
  · refine g_istore_n (lv' := [(2, iv j3), (0, .ref (r 200)), (1, iv a0)]) X dX12_named_20 rfl (by decide) rfl ?_
    refine g_aload_n X dX12_named_21 1 rfl ?_
    refine g_getI X fM_3 rfl dX12_named_22 h (fun v6 h => ?_)
    refine g_iconst X dX12_named_25 ?_
    refine g_join (J := fun jj => ∀ (j7 : Int) (t8 : St), jj j7 t8 = some z → gP p l e rm_f_X12_named s m args below meth c E A 4 (MQ below ((gqI E (gW E r shM) z) A) args s mc ms A) (gW E r shM) 34 [(0, .ref (r 200)), (1, iv a0), (2, iv j3)] [iv j7] t8) h (fun j7 t8 h => ?_) (fun J9 hJ9 h => ?_)
    · refine g_istore_n (lv' := [(3, iv j7), (0, .ref (r 200)), (1, iv a0), (2, iv j3)]) X dX12_named_34 rfl (by decide) rfl ?_
      refine g_aload_n X dX12_named_35 1 rfl ?_
      refine g_callV (rest := []) X (fun u9 h9 => cp_X12_next l E r N t8 u9 h9) yy_X12_next yi_X12_next wdM_RX12_323 0 12 (gW_at oM) rfl rfl rfl (Nat.le_of_ble_eq_true rfl) dX12_named_36 ⟨by decide, by decide⟩ ⟨rfl, rfl⟩ h (fun t10 h => ?_)
      refine g_iload_n X dX12_named_39 0 rfl ?_
      refine g_join (J := fun jj => ∀ (j11 : Int) (t12 : St), jj j11 t12 = some z → gP p l e rm_f_X12_named s m args below meth c E A 4 (MQ below ((gqI E (gW E r shM) z) A) args s mc ms A) (gW E r shM) 55 [(0, .ref (r 200)), (1, iv a0), (2, iv j3)] [iv j11] t12) h (fun j11 t12 h => ?_) (fun J13 hJ13 h => ?_)
      · refine g_istore_n (lv' := [(3, iv j11), (0, .ref (r 200)), (1, iv a0), (2, iv j3)]) X dX12_named_55 rfl (by decide) rfl ?_
        refine g_iload_n X dX12_named_56 0 rfl ?_
        refine g_if_ne (tgt := 67) X dX12_named_57 (by decide) h (fun h => ?_) (fun h => ?_)
        · refine g_iload_n X dX12_named_67 3 rfl ?_
          refine g_iconst X dX12_named_68 ?_
          refine g_icmp_eq (tgt := 91) X dX12_named_69 (by decide) h (fun h => ?_) (fun h => ?_)
          · refine g_iconst X dX12_named_91 ?_
            exact g_iret X h dX12_named_92
          · refine g_aload_n X dX12_named_72 1 rfl ?_
            refine g_getR X fM_11 rfl dX12_named_73 ?_
            refine g_iload_n X dX12_named_76 3 rfl ?_
            refine g_iald X aM_11 dX12_named_77 h (fun v14 h => ?_)
            refine g_iload_n X dX12_named_78 2 rfl ?_
            refine g_icmp_ne (tgt := 91) X dX12_named_79 (by decide) h (fun h => ?_) (fun h => ?_)
            · refine g_iconst X dX12_named_91 ?_
              exact g_iret X h dX12_named_92
            · refine g_aload_n X dX12_named_82 1 rfl ?_
              refine g_getR X fM_12 rfl dX12_named_83 ?_
              refine g_iload_n X dX12_named_86 3 rfl ?_
              refine g_iald X aM_12 dX12_named_87 h (fun v15 h => ?_)
              refine g_goto (tgt := 92) X dX12_named_88 (by decide) ?_
              exact g_iret X h dX12_named_92
        · refine g_aload_n X dX12_named_60 1 rfl ?_
          refine g_iconst X dX12_named_61 ?_
          refine g_putI X fM_8w rfl dX12_named_62 h (fun t16 h => ?_)
          refine g_iconst X dX12_named_65 ?_
          exact g_iret X h dX12_named_66
      refine g_join (J := fun jj => ∀ (t17 : St), jj  t17 = some z → gP p l e rm_f_X12_named s m args below meth c E A 4 (MQ below ((gqI E (gW E r shM) z) A) args s mc ms A) (gW E r shM) 54 [(0, .ref (r 200)), (1, iv a0), (2, iv j3)] [] t17) h (fun  t17 h => ?_) (fun J18 hJ18 h => ?_)
      · refine g_iconst X dX12_named_54 ?_
        exact g_sub (lv' := [(0, .ref (r 200)), (1, iv a0), (2, iv j3)]) [0, 1, 2] rfl (hJ13 0 t17 h)
      refine g_if_eq (tgt := 54) X dX12_named_40 (by decide) h (fun h => ?_) (fun h => ?_)
      · exact g_sub (lv' := [(0, .ref (r 200)), (1, iv a0), (2, iv j3)]) [1, 2, 3] rfl (hJ18 t10 h)
      · refine g_aload_n X dX12_named_43 1 rfl ?_
        refine g_getI X fM_3 rfl dX12_named_44 h (fun v19 h => ?_)
        refine g_if_ne (tgt := 54) X dX12_named_47 (by decide) h (fun h => ?_) (fun h => ?_)
        · exact g_sub (lv' := [(0, .ref (r 200)), (1, iv a0), (2, iv j3)]) [1, 2, 3] rfl (hJ18 t10 h)
        · refine g_iconst X dX12_named_50 ?_
          refine g_goto (tgt := 55) X dX12_named_51 (by decide) ?_
          exact g_sub (lv' := [(0, .ref (r 200)), (1, iv a0), (2, iv j3)]) [1, 2, 3] rfl (hJ13 1 t10 h)
    refine g_icmp_ne (tgt := 33) X dX12_named_26 (by decide) h (fun h => ?_) (fun h => ?_)
    · refine g_iconst X dX12_named_33 ?_
      exact g_sub (lv' := [(0, .ref (r 200)), (1, iv a0), (2, iv j3)]) [1, 2, 0] rfl (hJ9 0 t4 h)
    · refine g_iconst X dX12_named_29 ?_
      refine g_goto (tgt := 34) X dX12_named_30 (by decide) ?_
      exact g_sub (lv' := [(0, .ref (r 200)), (1, iv a0), (2, iv j3)]) [1, 2, 0] rfl (hJ9 1 t4 h)
  refine g_icmp_ne (tgt := 19) X dX12_named_9 (by decide) h (fun h => ?_) (fun h => ?_)
  · refine g_iconst X dX12_named_19 ?_
    exact g_sub (lv' := [(0, .ref (r 200)), (1, iv a0)]) [0, 1] rfl (hJ5 (-1) t1 h)
  · refine g_aload_n X dX12_named_12 0 rfl ?_
    refine g_callI (rest := []) X (fun u9 h9 => cp_X12_nameAt l E r N t1 u9 h9) yy_X12_nameAt yi_X12_nameAt wdM_RX12_350 0 12 (gW_at oM) rfl rfl rfl (Nat.le_of_ble_eq_true rfl) dX12_named_13 ⟨by decide, by decide⟩ ⟨rfl, rfl⟩ h (fun v21 t20 h => ?_)
    refine g_goto (tgt := 20) X dX12_named_16 (by decide) ?_
    exact g_sub (lv' := [(0, .ref (r 200)), (1, iv a0)]) [0, 1] rfl (hJ5 v21 t20 h)
set_option maxHeartbeats 4000000 in
set_option maxRecDepth 100000 in
theorem cp_X12_named (l : Launch) (E : cE) (r : Nat → Nat) (N : Nat) (a0 : Int) (t : St) (z : Int × St) (h : f_X12_named N a0 t = some z) : cM l E yX12_named cX12_named 4 (some .int) rm_f_X12_named [.ref (r 200), iv a0] (gW E r shM t) (gqI E (gW E r shM) z) := by
  refine g_of (w := gW E r shM) (by decide) (Nat.le_of_ble_eq_true rfl) ?_
  intro p e s m below meth c A X
  exact g_sub (lv' := [(0, .ref (r 200)), (1, iv a0)]) [0, 1] rfl (b_f_X12_named X h)
theorem yy_X12_named : cY yX12_named cX12_named 4 (some .int) 1 := ⟨wdK_X12_named, wdZ_RX12, by decide +kernel⟩
theorem yi_X12_named : cYi yX12_named := ⟨wdN_X12_named, wdS_X12_named⟩
abbrev rmS_readWho (D : Nat) : Room := { frames := D + 3, cells := 0, slots := 0, locals := 60 * D + 86 }
theorem yy_X12_readWho : cY yX12_readWho cX12_readWho 5 (some .long) 1 := ⟨wdK_X12_readWho, wdZ_RX12, by decide +kernel⟩
theorem yi_X12_readWho : cYi yX12_readWho := ⟨wdN_X12_readWho, wdS_X12_readWho⟩
theorem yy_X12_readAnd : cY yX12_readAnd cX12_readAnd 5 (some .long) 1 := ⟨wdK_X12_readAnd, wdZ_RX12, by decide +kernel⟩
theorem yi_X12_readAnd : cYi yX12_readAnd := ⟨wdN_X12_readAnd, wdS_X12_readAnd⟩
theorem yy_X12_readOne : cY yX12_readOne cX12_readOne 9 (some .long) 1 := ⟨wdK_X12_readOne, wdZ_RX12, by decide +kernel⟩
theorem yi_X12_readOne : cYi yX12_readOne := ⟨wdN_X12_readOne, wdS_X12_readOne⟩
theorem dX12_readWho_0 : decode cX12_readWho 0 = .ok (.aload_n 0, 1) := by decide +kernel
theorem dX12_readWho_1 : decode cX12_readWho 1 = .ok (.lload_n 1, 1) := by decide +kernel
theorem dX12_readWho_2 : decode cX12_readWho 2 = .ok (.invokevirtual 450, 3) := by decide +kernel
theorem dX12_readWho_5 : decode cX12_readWho 5 = .ok (.lstore_n 3, 1) := by decide +kernel
theorem dX12_readWho_6 : decode cX12_readWho 6 = .ok (.aload_n 0, 1) := by decide +kernel
theorem dX12_readWho_7 : decode cX12_readWho 7 = .ok (.getfield 65, 3) := by decide +kernel
theorem dX12_readWho_10 : decode cX12_readWho 10 = .ok (.aload_n 0, 1) := by decide +kernel
theorem dX12_readWho_11 : decode cX12_readWho 11 = .ok (.getfield 454, 3) := by decide +kernel
theorem dX12_readWho_14 : decode cX12_readWho 14 = .ok (.iaload, 1) := by decide +kernel
theorem dX12_readWho_15 : decode cX12_readWho 15 = .ok (.bipush 24, 2) := by decide +kernel
theorem dX12_readWho_17 : decode cX12_readWho 17 = .ok (.if_icmp .ne 24, 3) := by decide +kernel
theorem dX12_readWho_20 : decode cX12_readWho 20 = .ok (.aload_n 0, 1) := by decide +kernel
theorem dX12_readWho_21 : decode cX12_readWho 21 = .ok (.dup, 1) := by decide +kernel
theorem dX12_readWho_22 : decode cX12_readWho 22 = .ok (.getfield 454, 3) := by decide +kernel
theorem dX12_readWho_25 : decode cX12_readWho 25 = .ok (.iconst 1, 1) := by decide +kernel
theorem dX12_readWho_26 : decode cX12_readWho 26 = .ok (.iadd, 1) := by decide +kernel
theorem dX12_readWho_27 : decode cX12_readWho 27 = .ok (.putfield 454, 3) := by decide +kernel
theorem dX12_readWho_30 : decode cX12_readWho 30 = .ok (.lload_n 3, 1) := by decide +kernel
theorem dX12_readWho_31 : decode cX12_readWho 31 = .ok (.aload_n 0, 1) := by decide +kernel
theorem dX12_readWho_32 : decode cX12_readWho 32 = .ok (.lload_n 1, 1) := by decide +kernel
theorem dX12_readWho_33 : decode cX12_readWho 33 = .ok (.invokevirtual 450, 3) := by decide +kernel
theorem dX12_readWho_36 : decode cX12_readWho 36 = .ok (.lor, 1) := by decide +kernel
theorem dX12_readWho_37 : decode cX12_readWho 37 = .ok (.lstore_n 3, 1) := by decide +kernel
theorem dX12_readWho_38 : decode cX12_readWho 38 = .ok (.goto (-32), 3) := by decide +kernel
theorem dX12_readWho_41 : decode cX12_readWho 41 = .ok (.lload_n 3, 1) := by decide +kernel
theorem dX12_readWho_42 : decode cX12_readWho 42 = .ok (.lreturn, 1) := by decide +kernel
def o_X12_readWho_L6 (fo_readAnd : (Int64 → St → Option (Int64 × St))) (K6 : (Int64 → St → Option (Int64 × St))) (y3 : Int64) : Nat → Int64 → St → Option (Int64 × St)
  | 0, _, _ => none
  | n9 + 1, x4, t5 =>
    lt1 (t5.1 200 114) fun v7 =>
    ixI v7 10100 (lt1 (t5.1 31 v7.toNat) fun v8 =>
    cmpI v8 24 (if v8 = 24 then (lt1 (t5.1 200 114) fun v9 =>
    lt1 (pI t5 200 114 (v9 + 1)) fun t10 =>
    bdL (fo_readAnd y3 t10) fun v12 t11 =>
    o_X12_readWho_L6 fo_readAnd K6 y3 n9 (x4 ||| v12) t11)
    else (K6 x4 t5)))
def o_X12_readWho (N : Nat) (fo_readAnd : (Int64 → St → Option (Int64 × St))) (a0 : Int64) (t : St) : Option (Int64 × St) :=
    bdL (fo_readAnd a0 t) fun v2 t1 =>
    o_X12_readWho_L6 fo_readAnd (fun (k13 : Int64) (t14 : St) => some (k13, t14)) a0 N v2 t1
set_option maxHeartbeats 4000000 in
set_option maxRecDepth 100000 in
theorem t_o_X12_readWho_L6 {p : Program} {l : Launch} {e : Env} {s : State} {m : MethodId} {args : Array Value} {below : List Frame} {meth : Method} {c : Code} {E : cE} {A : Nat → Prop} {r : Nat → Nat} {mc ms : Nat} {z : Int64 × St} {D9 : Nat} {fo_readAnd : (Int64 → St → Option (Int64 × St))} {K6 : (Int64 → St → Option (Int64 × St))} {y3 : Int64} (X : gX p s m meth c cX12_readWho 5 (some .long) yX12_readWho args E A) (ho_readAnd : ∀ (a0 : Int64) (t : St) (z : Int64 × St), fo_readAnd a0 t = some z → cM l E yX12_readAnd cX12_readAnd 5 (some .long) (rmS_readWho D9) [.ref (r 200), .long a0] (gW E r shM t) (gqL E (gW E r shM) z)) (hK6 : ∀ (q3 : Int64) (t9 : St), K6 q3 t9 = some z → gP p l e (rmS_readWho (D9 + 1)) s m args below meth c E A 5 (MQ below ((gqL E (gW E r shM) z) A) args s mc ms A) (gW E r shM) 41 [(3, .long q3)] [] t9) : ∀ (n9 : Nat) (x4 : Int64) (t5 : St), o_X12_readWho_L6 fo_readAnd K6 y3 n9 x4 t5 = some z → gP p l e (rmS_readWho (D9 + 1)) s m args below meth c E A 5 (MQ below ((gqL E (gW E r shM) z) A) args s mc ms A) (gW E r shM) 6 [(0, .ref (r 200)), (1, .long y3), (3, .long x4)] [] t5 := by
  intro n9
  induction n9 with
  | zero => intro x4 t5 h; cases h
  | succ n9 ih =>
    intro x4 t5 h
    unfold o_X12_readWho_L6 at h
    refine g_aload_n X dX12_readWho_6 0 rfl ?_
    refine g_getR X fM_31 rfl dX12_readWho_7 ?_
    refine g_aload_n X dX12_readWho_10 0 rfl ?_
    refine g_getI X fM_114 rfl dX12_readWho_11 h (fun v7 h => ?_)
    refine g_iald X aM_31 dX12_readWho_14 h (fun v8 h => ?_)
    refine g_bipush X dX12_readWho_15 (by decide) ?_
    refine g_icmp_ne (tgt := 41) X dX12_readWho_17 (by decide) h (fun h => ?_) (fun h => ?_)
    · exact g_sub (lv' := [(3, .long x4)]) [2] rfl (hK6 x4 t5 h)
    · refine g_aload_n X dX12_readWho_20 0 rfl ?_
      refine g_dup X rfl dX12_readWho_21 ?_
      refine g_getI X fM_114 rfl dX12_readWho_22 h (fun v9 h => ?_)
      refine g_iconst X dX12_readWho_25 ?_
      refine g_iadd X dX12_readWho_26 ?_
      refine g_putI X fM_114w rfl dX12_readWho_27 h (fun t10 h => ?_)
      refine g_lload_n X dX12_readWho_30 2 rfl ?_
      refine g_aload_n X dX12_readWho_31 0 rfl ?_
      refine g_lload_n X dX12_readWho_32 1 rfl ?_
      refine g_callL (rest := [.long x4]) X (fun u9 h9 => ho_readAnd y3 t10 u9 h9) yy_X12_readAnd yi_X12_readAnd wdM_RX12_450 0 12 (gW_at oM) rfl rfl rfl (Nat.le_of_ble_eq_true rfl) dX12_readWho_33 ⟨by show D9 + 3 + 1 ≤ D9 + 1 + 3; omega, by show 8 + (5 + 11) + (60 * D9 + 86) ≤ 60 * (D9 + 1) + 86; omega⟩ ⟨rfl, rfl⟩ h (fun v12 t11 h => ?_)
      refine g_lor X dX12_readWho_36 ?_
      refine g_lstore_n (lv' := [(3, .long (x4 ||| v12)), (0, .ref (r 200)), (1, .long y3)]) X dX12_readWho_37 rfl (by decide) rfl ?_
      refine g_goto (tgt := 6) X dX12_readWho_38 (by decide) ?_
      exact g_sub (lv' := [(0, .ref (r 200)), (1, .long y3), (3, .long (x4 ||| v12))]) [1, 2, 0] rfl (ih (x4 ||| v12) t11 h)
set_option maxHeartbeats 4000000 in
set_option maxRecDepth 100000 in
theorem b_o_X12_readWho {p : Program} {l : Launch} {e : Env} {s : State} {m : MethodId} {args : Array Value} {below : List Frame} {meth : Method} {c : Code} {E : cE} {A : Nat → Prop} {r : Nat → Nat} {mc ms : Nat} {z : Int64 × St} {N : Nat} {D9 : Nat} {fo_readAnd : (Int64 → St → Option (Int64 × St))} (ho_readAnd : ∀ (a0 : Int64) (t : St) (z : Int64 × St), fo_readAnd a0 t = some z → cM l E yX12_readAnd cX12_readAnd 5 (some .long) (rmS_readWho D9) [.ref (r 200), .long a0] (gW E r shM t) (gqL E (gW E r shM) z)) {a0 : Int64} {t : St} (X : gX p s m meth c cX12_readWho 5 (some .long) yX12_readWho args E A) (h : o_X12_readWho N fo_readAnd a0 t = some z) : gP p l e (rmS_readWho (D9 + 1)) s m args below meth c E A 5 (MQ below ((gqL E (gW E r shM) z) A) args s mc ms A) (gW E r shM) 0 [(0, .ref (r 200)), (1, .long a0)] [] t := by
  unfold o_X12_readWho at h
  refine g_aload_n X dX12_readWho_0 0 rfl ?_
  refine g_lload_n X dX12_readWho_1 1 rfl ?_
  refine g_callL (rest := []) X (fun u9 h9 => ho_readAnd a0 t u9 h9) yy_X12_readAnd yi_X12_readAnd wdM_RX12_450 0 12 (gW_at oM) rfl rfl rfl (Nat.le_of_ble_eq_true rfl) dX12_readWho_2 ⟨by show D9 + 3 + 1 ≤ D9 + 1 + 3; omega, by show 8 + (5 + 11) + (60 * D9 + 86) ≤ 60 * (D9 + 1) + 86; omega⟩ ⟨rfl, rfl⟩ h (fun v2 t1 h => ?_)
  refine g_lstore_n (lv' := [(3, .long v2), (0, .ref (r 200)), (1, .long a0)]) X dX12_readWho_5 rfl (by decide) rfl ?_
  refine g_sub (lv' := [(0, .ref (r 200)), (1, .long a0), (3, .long v2)]) [1, 2, 0] rfl (t_o_X12_readWho_L6 X ho_readAnd (fun k13 t14 h => ?_) N v2 t1 h)
  · refine g_lload_n X dX12_readWho_41 0 rfl ?_
    exact g_lret X h dX12_readWho_42
set_option maxHeartbeats 4000000 in
set_option maxRecDepth 100000 in
theorem cpo_X12_readWho (l : Launch) (E : cE) (r : Nat → Nat) (N : Nat) (D9 : Nat) (fo_readAnd : (Int64 → St → Option (Int64 × St))) (ho_readAnd : ∀ (a0 : Int64) (t : St) (z : Int64 × St), fo_readAnd a0 t = some z → cM l E yX12_readAnd cX12_readAnd 5 (some .long) (rmS_readWho D9) [.ref (r 200), .long a0] (gW E r shM t) (gqL E (gW E r shM) z)) (a0 : Int64) (t : St) (z : Int64 × St) (h : o_X12_readWho N fo_readAnd a0 t = some z) : cM l E yX12_readWho cX12_readWho 5 (some .long) (rmS_readWho (D9 + 1)) [.ref (r 200), .long a0] (gW E r shM t) (gqL E (gW E r shM) z) := by
  refine g_of (w := gW E r shM) (by decide) (Nat.le_of_ble_eq_true rfl) ?_
  intro p e s m below meth c A X
  exact g_sub (lv' := [(0, .ref (r 200)), (1, .long a0)]) [0, 1] rfl (b_o_X12_readWho ho_readAnd X h)
theorem dX12_readAnd_0 : decode cX12_readAnd 0 = .ok (.aload_n 0, 1) := by decide +kernel
theorem dX12_readAnd_1 : decode cX12_readAnd 1 = .ok (.lload_n 1, 1) := by decide +kernel
theorem dX12_readAnd_2 : decode cX12_readAnd 2 = .ok (.invokevirtual 457, 3) := by decide +kernel
theorem dX12_readAnd_5 : decode cX12_readAnd 5 = .ok (.lstore_n 3, 1) := by decide +kernel
theorem dX12_readAnd_6 : decode cX12_readAnd 6 = .ok (.aload_n 0, 1) := by decide +kernel
theorem dX12_readAnd_7 : decode cX12_readAnd 7 = .ok (.getfield 65, 3) := by decide +kernel
theorem dX12_readAnd_10 : decode cX12_readAnd 10 = .ok (.aload_n 0, 1) := by decide +kernel
theorem dX12_readAnd_11 : decode cX12_readAnd 11 = .ok (.getfield 454, 3) := by decide +kernel
theorem dX12_readAnd_14 : decode cX12_readAnd 14 = .ok (.iaload, 1) := by decide +kernel
theorem dX12_readAnd_15 : decode cX12_readAnd 15 = .ok (.bipush 25, 2) := by decide +kernel
theorem dX12_readAnd_17 : decode cX12_readAnd 17 = .ok (.if_icmp .ne 24, 3) := by decide +kernel
theorem dX12_readAnd_20 : decode cX12_readAnd 20 = .ok (.aload_n 0, 1) := by decide +kernel
theorem dX12_readAnd_21 : decode cX12_readAnd 21 = .ok (.dup, 1) := by decide +kernel
theorem dX12_readAnd_22 : decode cX12_readAnd 22 = .ok (.getfield 454, 3) := by decide +kernel
theorem dX12_readAnd_25 : decode cX12_readAnd 25 = .ok (.iconst 1, 1) := by decide +kernel
theorem dX12_readAnd_26 : decode cX12_readAnd 26 = .ok (.iadd, 1) := by decide +kernel
theorem dX12_readAnd_27 : decode cX12_readAnd 27 = .ok (.putfield 454, 3) := by decide +kernel
theorem dX12_readAnd_30 : decode cX12_readAnd 30 = .ok (.lload_n 3, 1) := by decide +kernel
theorem dX12_readAnd_31 : decode cX12_readAnd 31 = .ok (.aload_n 0, 1) := by decide +kernel
theorem dX12_readAnd_32 : decode cX12_readAnd 32 = .ok (.lload_n 1, 1) := by decide +kernel
theorem dX12_readAnd_33 : decode cX12_readAnd 33 = .ok (.invokevirtual 457, 3) := by decide +kernel
theorem dX12_readAnd_36 : decode cX12_readAnd 36 = .ok (.land, 1) := by decide +kernel
theorem dX12_readAnd_37 : decode cX12_readAnd 37 = .ok (.lstore_n 3, 1) := by decide +kernel
theorem dX12_readAnd_38 : decode cX12_readAnd 38 = .ok (.goto (-32), 3) := by decide +kernel
theorem dX12_readAnd_41 : decode cX12_readAnd 41 = .ok (.lload_n 3, 1) := by decide +kernel
theorem dX12_readAnd_42 : decode cX12_readAnd 42 = .ok (.lreturn, 1) := by decide +kernel
def o_X12_readAnd_L6 (fo_readOne : (Int64 → St → Option (Int64 × St))) (K6 : (Int64 → St → Option (Int64 × St))) (y3 : Int64) : Nat → Int64 → St → Option (Int64 × St)
  | 0, _, _ => none
  | n9 + 1, x4, t5 =>
    lt1 (t5.1 200 114) fun v7 =>
    ixI v7 10100 (lt1 (t5.1 31 v7.toNat) fun v8 =>
    cmpI v8 25 (if v8 = 25 then (lt1 (t5.1 200 114) fun v9 =>
    lt1 (pI t5 200 114 (v9 + 1)) fun t10 =>
    bdL (fo_readOne y3 t10) fun v12 t11 =>
    o_X12_readAnd_L6 fo_readOne K6 y3 n9 (x4 &&& v12) t11)
    else (K6 x4 t5)))
def o_X12_readAnd (N : Nat) (fo_readOne : (Int64 → St → Option (Int64 × St))) (a0 : Int64) (t : St) : Option (Int64 × St) :=
    bdL (fo_readOne a0 t) fun v2 t1 =>
    o_X12_readAnd_L6 fo_readOne (fun (k13 : Int64) (t14 : St) => some (k13, t14)) a0 N v2 t1
set_option maxHeartbeats 4000000 in
set_option maxRecDepth 100000 in
theorem t_o_X12_readAnd_L6 {p : Program} {l : Launch} {e : Env} {s : State} {m : MethodId} {args : Array Value} {below : List Frame} {meth : Method} {c : Code} {E : cE} {A : Nat → Prop} {r : Nat → Nat} {mc ms : Nat} {z : Int64 × St} {D9 : Nat} {fo_readOne : (Int64 → St → Option (Int64 × St))} {K6 : (Int64 → St → Option (Int64 × St))} {y3 : Int64} (X : gX p s m meth c cX12_readAnd 5 (some .long) yX12_readAnd args E A) (ho_readOne : ∀ (a0 : Int64) (t : St) (z : Int64 × St), fo_readOne a0 t = some z → cM l E yX12_readOne cX12_readOne 9 (some .long) (rmS_readWho D9) [.ref (r 200), .long a0] (gW E r shM t) (gqL E (gW E r shM) z)) (hK6 : ∀ (q3 : Int64) (t9 : St), K6 q3 t9 = some z → gP p l e (rmS_readWho (D9 + 1)) s m args below meth c E A 5 (MQ below ((gqL E (gW E r shM) z) A) args s mc ms A) (gW E r shM) 41 [(3, .long q3)] [] t9) : ∀ (n9 : Nat) (x4 : Int64) (t5 : St), o_X12_readAnd_L6 fo_readOne K6 y3 n9 x4 t5 = some z → gP p l e (rmS_readWho (D9 + 1)) s m args below meth c E A 5 (MQ below ((gqL E (gW E r shM) z) A) args s mc ms A) (gW E r shM) 6 [(0, .ref (r 200)), (1, .long y3), (3, .long x4)] [] t5 := by
  intro n9
  induction n9 with
  | zero => intro x4 t5 h; cases h
  | succ n9 ih =>
    intro x4 t5 h
    unfold o_X12_readAnd_L6 at h
    refine g_aload_n X dX12_readAnd_6 0 rfl ?_
    refine g_getR X fM_31 rfl dX12_readAnd_7 ?_
    refine g_aload_n X dX12_readAnd_10 0 rfl ?_
    refine g_getI X fM_114 rfl dX12_readAnd_11 h (fun v7 h => ?_)
    refine g_iald X aM_31 dX12_readAnd_14 h (fun v8 h => ?_)
    refine g_bipush X dX12_readAnd_15 (by decide) ?_
    refine g_icmp_ne (tgt := 41) X dX12_readAnd_17 (by decide) h (fun h => ?_) (fun h => ?_)
    · exact g_sub (lv' := [(3, .long x4)]) [2] rfl (hK6 x4 t5 h)
    · refine g_aload_n X dX12_readAnd_20 0 rfl ?_
      refine g_dup X rfl dX12_readAnd_21 ?_
      refine g_getI X fM_114 rfl dX12_readAnd_22 h (fun v9 h => ?_)
      refine g_iconst X dX12_readAnd_25 ?_
      refine g_iadd X dX12_readAnd_26 ?_
      refine g_putI X fM_114w rfl dX12_readAnd_27 h (fun t10 h => ?_)
      refine g_lload_n X dX12_readAnd_30 2 rfl ?_
      refine g_aload_n X dX12_readAnd_31 0 rfl ?_
      refine g_lload_n X dX12_readAnd_32 1 rfl ?_
      refine g_callL (rest := [.long x4]) X (fun u9 h9 => ho_readOne y3 t10 u9 h9) yy_X12_readOne yi_X12_readOne wdM_RX12_457 0 12 (gW_at oM) rfl rfl rfl (Nat.le_of_ble_eq_true rfl) dX12_readAnd_33 ⟨by show D9 + 3 + 1 ≤ D9 + 1 + 3; omega, by show 8 + (9 + 11) + (60 * D9 + 86) ≤ 60 * (D9 + 1) + 86; omega⟩ ⟨rfl, rfl⟩ h (fun v12 t11 h => ?_)
      refine g_land X dX12_readAnd_36 ?_
      refine g_lstore_n (lv' := [(3, .long (x4 &&& v12)), (0, .ref (r 200)), (1, .long y3)]) X dX12_readAnd_37 rfl (by decide) rfl ?_
      refine g_goto (tgt := 6) X dX12_readAnd_38 (by decide) ?_
      exact g_sub (lv' := [(0, .ref (r 200)), (1, .long y3), (3, .long (x4 &&& v12))]) [1, 2, 0] rfl (ih (x4 &&& v12) t11 h)
set_option maxHeartbeats 4000000 in
set_option maxRecDepth 100000 in
theorem b_o_X12_readAnd {p : Program} {l : Launch} {e : Env} {s : State} {m : MethodId} {args : Array Value} {below : List Frame} {meth : Method} {c : Code} {E : cE} {A : Nat → Prop} {r : Nat → Nat} {mc ms : Nat} {z : Int64 × St} {N : Nat} {D9 : Nat} {fo_readOne : (Int64 → St → Option (Int64 × St))} (ho_readOne : ∀ (a0 : Int64) (t : St) (z : Int64 × St), fo_readOne a0 t = some z → cM l E yX12_readOne cX12_readOne 9 (some .long) (rmS_readWho D9) [.ref (r 200), .long a0] (gW E r shM t) (gqL E (gW E r shM) z)) {a0 : Int64} {t : St} (X : gX p s m meth c cX12_readAnd 5 (some .long) yX12_readAnd args E A) (h : o_X12_readAnd N fo_readOne a0 t = some z) : gP p l e (rmS_readWho (D9 + 1)) s m args below meth c E A 5 (MQ below ((gqL E (gW E r shM) z) A) args s mc ms A) (gW E r shM) 0 [(0, .ref (r 200)), (1, .long a0)] [] t := by
  unfold o_X12_readAnd at h
  refine g_aload_n X dX12_readAnd_0 0 rfl ?_
  refine g_lload_n X dX12_readAnd_1 1 rfl ?_
  refine g_callL (rest := []) X (fun u9 h9 => ho_readOne a0 t u9 h9) yy_X12_readOne yi_X12_readOne wdM_RX12_457 0 12 (gW_at oM) rfl rfl rfl (Nat.le_of_ble_eq_true rfl) dX12_readAnd_2 ⟨by show D9 + 3 + 1 ≤ D9 + 1 + 3; omega, by show 8 + (9 + 11) + (60 * D9 + 86) ≤ 60 * (D9 + 1) + 86; omega⟩ ⟨rfl, rfl⟩ h (fun v2 t1 h => ?_)
  refine g_lstore_n (lv' := [(3, .long v2), (0, .ref (r 200)), (1, .long a0)]) X dX12_readAnd_5 rfl (by decide) rfl ?_
  refine g_sub (lv' := [(0, .ref (r 200)), (1, .long a0), (3, .long v2)]) [1, 2, 0] rfl (t_o_X12_readAnd_L6 X ho_readOne (fun k13 t14 h => ?_) N v2 t1 h)
  · refine g_lload_n X dX12_readAnd_41 0 rfl ?_
    exact g_lret X h dX12_readAnd_42
set_option maxHeartbeats 4000000 in
set_option maxRecDepth 100000 in
theorem cpo_X12_readAnd (l : Launch) (E : cE) (r : Nat → Nat) (N : Nat) (D9 : Nat) (fo_readOne : (Int64 → St → Option (Int64 × St))) (ho_readOne : ∀ (a0 : Int64) (t : St) (z : Int64 × St), fo_readOne a0 t = some z → cM l E yX12_readOne cX12_readOne 9 (some .long) (rmS_readWho D9) [.ref (r 200), .long a0] (gW E r shM t) (gqL E (gW E r shM) z)) (a0 : Int64) (t : St) (z : Int64 × St) (h : o_X12_readAnd N fo_readOne a0 t = some z) : cM l E yX12_readAnd cX12_readAnd 5 (some .long) (rmS_readWho (D9 + 1)) [.ref (r 200), .long a0] (gW E r shM t) (gqL E (gW E r shM) z) := by
  refine g_of (w := gW E r shM) (by decide) (Nat.le_of_ble_eq_true rfl) ?_
  intro p e s m below meth c A X
  exact g_sub (lv' := [(0, .ref (r 200)), (1, .long a0)]) [0, 1] rfl (b_o_X12_readAnd ho_readOne X h)
theorem dX12_readOne_0 : decode cX12_readOne 0 = .ok (.aload_n 0, 1) := by decide +kernel
theorem dX12_readOne_1 : decode cX12_readOne 1 = .ok (.getfield 65, 3) := by decide +kernel
theorem dX12_readOne_4 : decode cX12_readOne 4 = .ok (.aload_n 0, 1) := by decide +kernel
theorem dX12_readOne_5 : decode cX12_readOne 5 = .ok (.getfield 454, 3) := by decide +kernel
theorem dX12_readOne_8 : decode cX12_readOne 8 = .ok (.iaload, 1) := by decide +kernel
theorem dX12_readOne_9 : decode cX12_readOne 9 = .ok (.istore_n 3, 1) := by decide +kernel
theorem dX12_readOne_10 : decode cX12_readOne 10 = .ok (.aload_n 0, 1) := by decide +kernel
theorem dX12_readOne_11 : decode cX12_readOne 11 = .ok (.dup, 1) := by decide +kernel
theorem dX12_readOne_12 : decode cX12_readOne 12 = .ok (.getfield 454, 3) := by decide +kernel
theorem dX12_readOne_15 : decode cX12_readOne 15 = .ok (.iconst 1, 1) := by decide +kernel
theorem dX12_readOne_16 : decode cX12_readOne 16 = .ok (.iadd, 1) := by decide +kernel
theorem dX12_readOne_17 : decode cX12_readOne 17 = .ok (.putfield 454, 3) := by decide +kernel
theorem dX12_readOne_20 : decode cX12_readOne 20 = .ok (.iload_n 3, 1) := by decide +kernel
theorem dX12_readOne_21 : decode cX12_readOne 21 = .ok (.bipush 26, 2) := by decide +kernel
theorem dX12_readOne_23 : decode cX12_readOne 23 = .ok (.if_icmp .ne 15, 3) := by decide +kernel
theorem dX12_readOne_26 : decode cX12_readOne 26 = .ok (.lload_n 1, 1) := by decide +kernel
theorem dX12_readOne_27 : decode cX12_readOne 27 = .ok (.aload_n 0, 1) := by decide +kernel
theorem dX12_readOne_28 : decode cX12_readOne 28 = .ok (.lload_n 1, 1) := by decide +kernel
theorem dX12_readOne_29 : decode cX12_readOne 29 = .ok (.invokevirtual 457, 3) := by decide +kernel
theorem dX12_readOne_32 : decode cX12_readOne 32 = .ok (.ldc2_w 440, 3) := by decide +kernel
theorem dX12_readOne_35 : decode cX12_readOne 35 = .ok (.lxor, 1) := by decide +kernel
theorem dX12_readOne_36 : decode cX12_readOne 36 = .ok (.land, 1) := by decide +kernel
theorem dX12_readOne_37 : decode cX12_readOne 37 = .ok (.lreturn, 1) := by decide +kernel
theorem dX12_readOne_38 : decode cX12_readOne 38 = .ok (.iload_n 3, 1) := by decide +kernel
theorem dX12_readOne_39 : decode cX12_readOne 39 = .ok (.sipush 5040, 3) := by decide +kernel
theorem dX12_readOne_42 : decode cX12_readOne 42 = .ok (.if_icmp .ne 23, 3) := by decide +kernel
theorem dX12_readOne_45 : decode cX12_readOne 45 = .ok (.aload_n 0, 1) := by decide +kernel
theorem dX12_readOne_46 : decode cX12_readOne 46 = .ok (.lload_n 1, 1) := by decide +kernel
theorem dX12_readOne_47 : decode cX12_readOne 47 = .ok (.invokevirtual 460, 3) := by decide +kernel
theorem dX12_readOne_50 : decode cX12_readOne 50 = .ok (.lstore 4, 2) := by decide +kernel
theorem dX12_readOne_52 : decode cX12_readOne 52 = .ok (.aload_n 0, 1) := by decide +kernel
theorem dX12_readOne_53 : decode cX12_readOne 53 = .ok (.dup, 1) := by decide +kernel
theorem dX12_readOne_54 : decode cX12_readOne 54 = .ok (.getfield 454, 3) := by decide +kernel
theorem dX12_readOne_57 : decode cX12_readOne 57 = .ok (.iconst 1, 1) := by decide +kernel
theorem dX12_readOne_58 : decode cX12_readOne 58 = .ok (.iadd, 1) := by decide +kernel
theorem dX12_readOne_59 : decode cX12_readOne 59 = .ok (.putfield 454, 3) := by decide +kernel
theorem dX12_readOne_62 : decode cX12_readOne 62 = .ok (.lload 4, 2) := by decide +kernel
theorem dX12_readOne_64 : decode cX12_readOne 64 = .ok (.lreturn, 1) := by decide +kernel
theorem dX12_readOne_65 : decode cX12_readOne 65 = .ok (.iload_n 3, 1) := by decide +kernel
theorem dX12_readOne_66 : decode cX12_readOne 66 = .ok (.bipush 14, 2) := by decide +kernel
theorem dX12_readOne_68 : decode cX12_readOne 68 = .ok (.if_icmp .ne 5, 3) := by decide +kernel
theorem dX12_readOne_71 : decode cX12_readOne 71 = .ok (.lload_n 1, 1) := by decide +kernel
theorem dX12_readOne_72 : decode cX12_readOne 72 = .ok (.lreturn, 1) := by decide +kernel
theorem dX12_readOne_73 : decode cX12_readOne 73 = .ok (.iload_n 3, 1) := by decide +kernel
theorem dX12_readOne_74 : decode cX12_readOne 74 = .ok (.bipush 22, 2) := by decide +kernel
theorem dX12_readOne_76 : decode cX12_readOne 76 = .ok (.if_icmp .eq 9, 3) := by decide +kernel
theorem dX12_readOne_79 : decode cX12_readOne 79 = .ok (.iload_n 3, 1) := by decide +kernel
theorem dX12_readOne_80 : decode cX12_readOne 80 = .ok (.bipush 23, 2) := by decide +kernel
theorem dX12_readOne_82 : decode cX12_readOne 82 = .ok (.if_icmp .ne 83, 3) := by decide +kernel
theorem dX12_readOne_85 : decode cX12_readOne 85 = .ok (.aload_n 0, 1) := by decide +kernel
theorem dX12_readOne_86 : decode cX12_readOne 86 = .ok (.getfield 65, 3) := by decide +kernel
theorem dX12_readOne_89 : decode cX12_readOne 89 = .ok (.aload_n 0, 1) := by decide +kernel
theorem dX12_readOne_90 : decode cX12_readOne 90 = .ok (.getfield 454, 3) := by decide +kernel
theorem dX12_readOne_93 : decode cX12_readOne 93 = .ok (.iaload, 1) := by decide +kernel
theorem dX12_readOne_94 : decode cX12_readOne 94 = .ok (.sipush 2000, 3) := by decide +kernel
theorem dX12_readOne_97 : decode cX12_readOne 97 = .ok (.isub, 1) := by decide +kernel
theorem dX12_readOne_98 : decode cX12_readOne 98 = .ok (.istore 4, 2) := by decide +kernel
theorem dX12_readOne_100 : decode cX12_readOne 100 = .ok (.aload_n 0, 1) := by decide +kernel
theorem dX12_readOne_101 : decode cX12_readOne 101 = .ok (.dup, 1) := by decide +kernel
theorem dX12_readOne_102 : decode cX12_readOne 102 = .ok (.getfield 454, 3) := by decide +kernel
theorem dX12_readOne_105 : decode cX12_readOne 105 = .ok (.iconst 1, 1) := by decide +kernel
theorem dX12_readOne_106 : decode cX12_readOne 106 = .ok (.iadd, 1) := by decide +kernel
theorem dX12_readOne_107 : decode cX12_readOne 107 = .ok (.putfield 454, 3) := by decide +kernel
theorem dX12_readOne_110 : decode cX12_readOne 110 = .ok (.iload_n 3, 1) := by decide +kernel
theorem dX12_readOne_111 : decode cX12_readOne 111 = .ok (.bipush 23, 2) := by decide +kernel
theorem dX12_readOne_113 : decode cX12_readOne 113 = .ok (.if_icmp .ne 19, 3) := by decide +kernel
theorem dX12_readOne_116 : decode cX12_readOne 116 = .ok (.aload_n 0, 1) := by decide +kernel
theorem dX12_readOne_117 : decode cX12_readOne 117 = .ok (.getfield 65, 3) := by decide +kernel
theorem dX12_readOne_120 : decode cX12_readOne 120 = .ok (.aload_n 0, 1) := by decide +kernel
theorem dX12_readOne_121 : decode cX12_readOne 121 = .ok (.getfield 454, 3) := by decide +kernel
theorem dX12_readOne_124 : decode cX12_readOne 124 = .ok (.iaload, 1) := by decide +kernel
theorem dX12_readOne_125 : decode cX12_readOne 125 = .ok (.sipush 1000, 3) := by decide +kernel
theorem dX12_readOne_128 : decode cX12_readOne 128 = .ok (.isub, 1) := by decide +kernel
theorem dX12_readOne_129 : decode cX12_readOne 129 = .ok (.goto 4, 3) := by decide +kernel
theorem dX12_readOne_132 : decode cX12_readOne 132 = .ok (.iconst (-1), 1) := by decide +kernel
theorem dX12_readOne_133 : decode cX12_readOne 133 = .ok (.istore 5, 2) := by decide +kernel
theorem dX12_readOne_135 : decode cX12_readOne 135 = .ok (.aload_n 0, 1) := by decide +kernel
theorem dX12_readOne_136 : decode cX12_readOne 136 = .ok (.dup, 1) := by decide +kernel
theorem dX12_readOne_137 : decode cX12_readOne 137 = .ok (.getfield 454, 3) := by decide +kernel
theorem dX12_readOne_140 : decode cX12_readOne 140 = .ok (.iload_n 3, 1) := by decide +kernel
theorem dX12_readOne_141 : decode cX12_readOne 141 = .ok (.bipush 23, 2) := by decide +kernel
theorem dX12_readOne_143 : decode cX12_readOne 143 = .ok (.if_icmp .ne 7, 3) := by decide +kernel
theorem dX12_readOne_146 : decode cX12_readOne 146 = .ok (.iconst 1, 1) := by decide +kernel
theorem dX12_readOne_147 : decode cX12_readOne 147 = .ok (.goto 4, 3) := by decide +kernel
theorem dX12_readOne_150 : decode cX12_readOne 150 = .ok (.iconst 0, 1) := by decide +kernel
theorem dX12_readOne_151 : decode cX12_readOne 151 = .ok (.iadd, 1) := by decide +kernel
theorem dX12_readOne_152 : decode cX12_readOne 152 = .ok (.putfield 454, 3) := by decide +kernel
theorem dX12_readOne_155 : decode cX12_readOne 155 = .ok (.aload_n 0, 1) := by decide +kernel
theorem dX12_readOne_156 : decode cX12_readOne 156 = .ok (.lload_n 1, 1) := by decide +kernel
theorem dX12_readOne_157 : decode cX12_readOne 157 = .ok (.iload 4, 2) := by decide +kernel
theorem dX12_readOne_159 : decode cX12_readOne 159 = .ok (.iload 5, 2) := by decide +kernel
theorem dX12_readOne_161 : decode cX12_readOne 161 = .ok (.invokevirtual 463, 3) := by decide +kernel
theorem dX12_readOne_164 : decode cX12_readOne 164 = .ok (.lreturn, 1) := by decide +kernel
theorem dX12_readOne_165 : decode cX12_readOne 165 = .ok (.iconst (-1), 1) := by decide +kernel
theorem dX12_readOne_166 : decode cX12_readOne 166 = .ok (.istore 4, 2) := by decide +kernel
theorem dX12_readOne_168 : decode cX12_readOne 168 = .ok (.iload_n 3, 1) := by decide +kernel
theorem dX12_readOne_169 : decode cX12_readOne 169 = .ok (.bipush 19, 2) := by decide +kernel
theorem dX12_readOne_171 : decode cX12_readOne 171 = .ok (.if_icmp .eq 9, 3) := by decide +kernel
theorem dX12_readOne_174 : decode cX12_readOne 174 = .ok (.iload_n 3, 1) := by decide +kernel
theorem dX12_readOne_175 : decode cX12_readOne 175 = .ok (.bipush 20, 2) := by decide +kernel
theorem dX12_readOne_177 : decode cX12_readOne 177 = .ok (.if_icmp .ne 18, 3) := by decide +kernel
theorem dX12_readOne_180 : decode cX12_readOne 180 = .ok (.aload_n 0, 1) := by decide +kernel
theorem dX12_readOne_181 : decode cX12_readOne 181 = .ok (.getfield 65, 3) := by decide +kernel
theorem dX12_readOne_184 : decode cX12_readOne 184 = .ok (.aload_n 0, 1) := by decide +kernel
theorem dX12_readOne_185 : decode cX12_readOne 185 = .ok (.getfield 454, 3) := by decide +kernel
theorem dX12_readOne_188 : decode cX12_readOne 188 = .ok (.iaload, 1) := by decide +kernel
theorem dX12_readOne_189 : decode cX12_readOne 189 = .ok (.sipush 1000, 3) := by decide +kernel
theorem dX12_readOne_192 : decode cX12_readOne 192 = .ok (.isub, 1) := by decide +kernel
theorem dX12_readOne_193 : decode cX12_readOne 193 = .ok (.istore 4, 2) := by decide +kernel
theorem dX12_readOne_195 : decode cX12_readOne 195 = .ok (.iload_n 3, 1) := by decide +kernel
theorem dX12_readOne_196 : decode cX12_readOne 196 = .ok (.bipush 21, 2) := by decide +kernel
theorem dX12_readOne_198 : decode cX12_readOne 198 = .ok (.if_icmp .ne 17, 3) := by decide +kernel
theorem dX12_readOne_201 : decode cX12_readOne 201 = .ok (.aload_n 0, 1) := by decide +kernel
theorem dX12_readOne_202 : decode cX12_readOne 202 = .ok (.getfield 65, 3) := by decide +kernel
theorem dX12_readOne_205 : decode cX12_readOne 205 = .ok (.aload_n 0, 1) := by decide +kernel
theorem dX12_readOne_206 : decode cX12_readOne 206 = .ok (.getfield 454, 3) := by decide +kernel
theorem dX12_readOne_209 : decode cX12_readOne 209 = .ok (.iaload, 1) := by decide +kernel
theorem dX12_readOne_210 : decode cX12_readOne 210 = .ok (.bipush 31, 2) := by decide +kernel
theorem dX12_readOne_212 : decode cX12_readOne 212 = .ok (.isub, 1) := by decide +kernel
theorem dX12_readOne_213 : decode cX12_readOne 213 = .ok (.istore 4, 2) := by decide +kernel
theorem dX12_readOne_215 : decode cX12_readOne 215 = .ok (.aload_n 0, 1) := by decide +kernel
theorem dX12_readOne_216 : decode cX12_readOne 216 = .ok (.dup, 1) := by decide +kernel
theorem dX12_readOne_217 : decode cX12_readOne 217 = .ok (.getfield 454, 3) := by decide +kernel
theorem dX12_readOne_220 : decode cX12_readOne 220 = .ok (.iload_n 3, 1) := by decide +kernel
theorem dX12_readOne_221 : decode cX12_readOne 221 = .ok (.bipush 19, 2) := by decide +kernel
theorem dX12_readOne_223 : decode cX12_readOne 223 = .ok (.if_icmp .eq 15, 3) := by decide +kernel
theorem dX12_readOne_226 : decode cX12_readOne 226 = .ok (.iload_n 3, 1) := by decide +kernel
theorem dX12_readOne_227 : decode cX12_readOne 227 = .ok (.bipush 20, 2) := by decide +kernel
theorem dX12_readOne_229 : decode cX12_readOne 229 = .ok (.if_icmp .eq 9, 3) := by decide +kernel
theorem dX12_readOne_232 : decode cX12_readOne 232 = .ok (.iload_n 3, 1) := by decide +kernel
theorem dX12_readOne_233 : decode cX12_readOne 233 = .ok (.bipush 21, 2) := by decide +kernel
theorem dX12_readOne_235 : decode cX12_readOne 235 = .ok (.if_icmp .ne 7, 3) := by decide +kernel
theorem dX12_readOne_238 : decode cX12_readOne 238 = .ok (.iconst 1, 1) := by decide +kernel
theorem dX12_readOne_239 : decode cX12_readOne 239 = .ok (.goto 4, 3) := by decide +kernel
theorem dX12_readOne_242 : decode cX12_readOne 242 = .ok (.iconst 0, 1) := by decide +kernel
theorem dX12_readOne_243 : decode cX12_readOne 243 = .ok (.iadd, 1) := by decide +kernel
theorem dX12_readOne_244 : decode cX12_readOne 244 = .ok (.putfield 454, 3) := by decide +kernel
theorem dX12_readOne_247 : decode cX12_readOne 247 = .ok (.lconst 0, 1) := by decide +kernel
theorem dX12_readOne_248 : decode cX12_readOne 248 = .ok (.lstore 5, 2) := by decide +kernel
theorem dX12_readOne_250 : decode cX12_readOne 250 = .ok (.iconst 0, 1) := by decide +kernel
theorem dX12_readOne_251 : decode cX12_readOne 251 = .ok (.istore 7, 2) := by decide +kernel
theorem dX12_readOne_253 : decode cX12_readOne 253 = .ok (.iload 7, 2) := by decide +kernel
theorem dX12_readOne_255 : decode cX12_readOne 255 = .ok (.aload_n 0, 1) := by decide +kernel
theorem dX12_readOne_256 : decode cX12_readOne 256 = .ok (.getfield 231, 3) := by decide +kernel
theorem dX12_readOne_259 : decode cX12_readOne 259 = .ok (.if_icmp .ge 186, 3) := by decide +kernel
theorem dX12_readOne_262 : decode cX12_readOne 262 = .ok (.iload_n 3, 1) := by decide +kernel
theorem dX12_readOne_263 : decode cX12_readOne 263 = .ok (.bipush 15, 2) := by decide +kernel
theorem dX12_readOne_265 : decode cX12_readOne 265 = .ok (.if_icmp .ne 18, 3) := by decide +kernel
theorem dX12_readOne_268 : decode cX12_readOne 268 = .ok (.iload 7, 2) := by decide +kernel
theorem dX12_readOne_270 : decode cX12_readOne 270 = .ok (.iconst 2, 1) := by decide +kernel
theorem dX12_readOne_271 : decode cX12_readOne 271 = .ok (.irem, 1) := by decide +kernel
theorem dX12_readOne_272 : decode cX12_readOne 272 = .ok (.ifCond .ne 7, 3) := by decide +kernel
theorem dX12_readOne_275 : decode cX12_readOne 275 = .ok (.iconst 1, 1) := by decide +kernel
theorem dX12_readOne_276 : decode cX12_readOne 276 = .ok (.goto 137, 3) := by decide +kernel
theorem dX12_readOne_279 : decode cX12_readOne 279 = .ok (.iconst 0, 1) := by decide +kernel
theorem dX12_readOne_280 : decode cX12_readOne 280 = .ok (.goto 133, 3) := by decide +kernel
theorem dX12_readOne_283 : decode cX12_readOne 283 = .ok (.iload_n 3, 1) := by decide +kernel
theorem dX12_readOne_284 : decode cX12_readOne 284 = .ok (.bipush 16, 2) := by decide +kernel
theorem dX12_readOne_286 : decode cX12_readOne 286 = .ok (.if_icmp .ne 19, 3) := by decide +kernel
theorem dX12_readOne_289 : decode cX12_readOne 289 = .ok (.iload 7, 2) := by decide +kernel
theorem dX12_readOne_291 : decode cX12_readOne 291 = .ok (.iconst 2, 1) := by decide +kernel
theorem dX12_readOne_292 : decode cX12_readOne 292 = .ok (.irem, 1) := by decide +kernel
theorem dX12_readOne_293 : decode cX12_readOne 293 = .ok (.iconst 1, 1) := by decide +kernel
theorem dX12_readOne_294 : decode cX12_readOne 294 = .ok (.if_icmp .ne 7, 3) := by decide +kernel
theorem dX12_readOne_297 : decode cX12_readOne 297 = .ok (.iconst 1, 1) := by decide +kernel
theorem dX12_readOne_298 : decode cX12_readOne 298 = .ok (.goto 115, 3) := by decide +kernel
theorem dX12_readOne_301 : decode cX12_readOne 301 = .ok (.iconst 0, 1) := by decide +kernel
theorem dX12_readOne_302 : decode cX12_readOne 302 = .ok (.goto 111, 3) := by decide +kernel
theorem dX12_readOne_305 : decode cX12_readOne 305 = .ok (.iload_n 3, 1) := by decide +kernel
theorem dX12_readOne_306 : decode cX12_readOne 306 = .ok (.bipush 17, 2) := by decide +kernel
theorem dX12_readOne_308 : decode cX12_readOne 308 = .ok (.if_icmp .ne 20, 3) := by decide +kernel
theorem dX12_readOne_311 : decode cX12_readOne 311 = .ok (.iload 7, 2) := by decide +kernel
theorem dX12_readOne_313 : decode cX12_readOne 313 = .ok (.iconst 2, 1) := by decide +kernel
theorem dX12_readOne_314 : decode cX12_readOne 314 = .ok (.idiv, 1) := by decide +kernel
theorem dX12_readOne_315 : decode cX12_readOne 315 = .ok (.iconst 2, 1) := by decide +kernel
theorem dX12_readOne_316 : decode cX12_readOne 316 = .ok (.irem, 1) := by decide +kernel
theorem dX12_readOne_317 : decode cX12_readOne 317 = .ok (.ifCond .ne 7, 3) := by decide +kernel
theorem dX12_readOne_320 : decode cX12_readOne 320 = .ok (.iconst 1, 1) := by decide +kernel
theorem dX12_readOne_321 : decode cX12_readOne 321 = .ok (.goto 92, 3) := by decide +kernel
theorem dX12_readOne_324 : decode cX12_readOne 324 = .ok (.iconst 0, 1) := by decide +kernel
theorem dX12_readOne_325 : decode cX12_readOne 325 = .ok (.goto 88, 3) := by decide +kernel
theorem dX12_readOne_328 : decode cX12_readOne 328 = .ok (.iload_n 3, 1) := by decide +kernel
theorem dX12_readOne_329 : decode cX12_readOne 329 = .ok (.bipush 18, 2) := by decide +kernel
theorem dX12_readOne_331 : decode cX12_readOne 331 = .ok (.if_icmp .ne 21, 3) := by decide +kernel
theorem dX12_readOne_334 : decode cX12_readOne 334 = .ok (.iload 7, 2) := by decide +kernel
theorem dX12_readOne_336 : decode cX12_readOne 336 = .ok (.iconst 2, 1) := by decide +kernel
theorem dX12_readOne_337 : decode cX12_readOne 337 = .ok (.idiv, 1) := by decide +kernel
theorem dX12_readOne_338 : decode cX12_readOne 338 = .ok (.iconst 2, 1) := by decide +kernel
theorem dX12_readOne_339 : decode cX12_readOne 339 = .ok (.irem, 1) := by decide +kernel
theorem dX12_readOne_340 : decode cX12_readOne 340 = .ok (.iconst 1, 1) := by decide +kernel
theorem dX12_readOne_341 : decode cX12_readOne 341 = .ok (.if_icmp .ne 7, 3) := by decide +kernel
theorem dX12_readOne_344 : decode cX12_readOne 344 = .ok (.iconst 1, 1) := by decide +kernel
theorem dX12_readOne_345 : decode cX12_readOne 345 = .ok (.goto 68, 3) := by decide +kernel
theorem dX12_readOne_348 : decode cX12_readOne 348 = .ok (.iconst 0, 1) := by decide +kernel
theorem dX12_readOne_349 : decode cX12_readOne 349 = .ok (.goto 64, 3) := by decide +kernel
theorem dX12_readOne_352 : decode cX12_readOne 352 = .ok (.iload_n 3, 1) := by decide +kernel
theorem dX12_readOne_353 : decode cX12_readOne 353 = .ok (.bipush 19, 2) := by decide +kernel
theorem dX12_readOne_355 : decode cX12_readOne 355 = .ok (.if_icmp .ne 20, 3) := by decide +kernel
theorem dX12_readOne_358 : decode cX12_readOne 358 = .ok (.iload 7, 2) := by decide +kernel
theorem dX12_readOne_360 : decode cX12_readOne 360 = .ok (.iconst 2, 1) := by decide +kernel
theorem dX12_readOne_361 : decode cX12_readOne 361 = .ok (.idiv, 1) := by decide +kernel
theorem dX12_readOne_362 : decode cX12_readOne 362 = .ok (.iload 4, 2) := by decide +kernel
theorem dX12_readOne_364 : decode cX12_readOne 364 = .ok (.if_icmp .ne 7, 3) := by decide +kernel
theorem dX12_readOne_367 : decode cX12_readOne 367 = .ok (.iconst 1, 1) := by decide +kernel
theorem dX12_readOne_368 : decode cX12_readOne 368 = .ok (.goto 45, 3) := by decide +kernel
theorem dX12_readOne_371 : decode cX12_readOne 371 = .ok (.iconst 0, 1) := by decide +kernel
theorem dX12_readOne_372 : decode cX12_readOne 372 = .ok (.goto 41, 3) := by decide +kernel
theorem dX12_readOne_375 : decode cX12_readOne 375 = .ok (.iload_n 3, 1) := by decide +kernel
theorem dX12_readOne_376 : decode cX12_readOne 376 = .ok (.bipush 20, 2) := by decide +kernel
theorem dX12_readOne_378 : decode cX12_readOne 378 = .ok (.if_icmp .ne 18, 3) := by decide +kernel
theorem dX12_readOne_381 : decode cX12_readOne 381 = .ok (.iload 7, 2) := by decide +kernel
theorem dX12_readOne_383 : decode cX12_readOne 383 = .ok (.iload 4, 2) := by decide +kernel
theorem dX12_readOne_385 : decode cX12_readOne 385 = .ok (.if_icmp .ne 7, 3) := by decide +kernel
theorem dX12_readOne_388 : decode cX12_readOne 388 = .ok (.iconst 1, 1) := by decide +kernel
theorem dX12_readOne_389 : decode cX12_readOne 389 = .ok (.goto 24, 3) := by decide +kernel
theorem dX12_readOne_392 : decode cX12_readOne 392 = .ok (.iconst 0, 1) := by decide +kernel
theorem dX12_readOne_393 : decode cX12_readOne 393 = .ok (.goto 20, 3) := by decide +kernel
theorem dX12_readOne_396 : decode cX12_readOne 396 = .ok (.aload_n 0, 1) := by decide +kernel
theorem dX12_readOne_397 : decode cX12_readOne 397 = .ok (.getfield 77, 3) := by decide +kernel
theorem dX12_readOne_400 : decode cX12_readOne 400 = .ok (.iload 7, 2) := by decide +kernel
theorem dX12_readOne_402 : decode cX12_readOne 402 = .ok (.iaload, 1) := by decide +kernel
theorem dX12_readOne_403 : decode cX12_readOne 403 = .ok (.iload 4, 2) := by decide +kernel
theorem dX12_readOne_405 : decode cX12_readOne 405 = .ok (.if_icmp .ne 7, 3) := by decide +kernel
theorem dX12_readOne_408 : decode cX12_readOne 408 = .ok (.iconst 1, 1) := by decide +kernel
theorem dX12_readOne_409 : decode cX12_readOne 409 = .ok (.goto 4, 3) := by decide +kernel
theorem dX12_readOne_412 : decode cX12_readOne 412 = .ok (.iconst 0, 1) := by decide +kernel
theorem dX12_readOne_413 : decode cX12_readOne 413 = .ok (.istore 8, 2) := by decide +kernel
theorem dX12_readOne_415 : decode cX12_readOne 415 = .ok (.iload 8, 2) := by decide +kernel
theorem dX12_readOne_417 : decode cX12_readOne 417 = .ok (.ifCond .eq 22, 3) := by decide +kernel
theorem dX12_readOne_420 : decode cX12_readOne 420 = .ok (.lload_n 1, 1) := by decide +kernel
theorem dX12_readOne_421 : decode cX12_readOne 421 = .ok (.iload 7, 2) := by decide +kernel
theorem dX12_readOne_423 : decode cX12_readOne 423 = .ok (.invokestatic 446, 3) := by decide +kernel
theorem dX12_readOne_426 : decode cX12_readOne 426 = .ok (.ifCond .eq 13, 3) := by decide +kernel
theorem dX12_readOne_429 : decode cX12_readOne 429 = .ok (.lload 5, 2) := by decide +kernel
theorem dX12_readOne_431 : decode cX12_readOne 431 = .ok (.iload 7, 2) := by decide +kernel
theorem dX12_readOne_433 : decode cX12_readOne 433 = .ok (.invokestatic 442, 3) := by decide +kernel
theorem dX12_readOne_436 : decode cX12_readOne 436 = .ok (.lor, 1) := by decide +kernel
theorem dX12_readOne_437 : decode cX12_readOne 437 = .ok (.lstore 5, 2) := by decide +kernel
theorem dX12_readOne_439 : decode cX12_readOne 439 = .ok (.iinc 7 1, 3) := by decide +kernel
theorem dX12_readOne_442 : decode cX12_readOne 442 = .ok (.goto (-189), 3) := by decide +kernel
theorem dX12_readOne_445 : decode cX12_readOne 445 = .ok (.lload 5, 2) := by decide +kernel
theorem dX12_readOne_447 : decode cX12_readOne 447 = .ok (.lreturn, 1) := by decide +kernel
def o_X12_readOne_L253 (N : Nat) (K40 : (Int64 → St → Option (Int64 × St))) (y34 : Int64) (y35 : Int) (y36 : Int) : Nat → Int64 → Int → St → Option (Int64 × St)
  | 0, _, _, _ => none
  | n9 + 1, x37, x38, t39 =>
    lt1 (t39.1 200 37) fun v41 =>
    cmpI x38 v41 (if x38 < v41 then (jn1 (fun (j42 : Int) (t43 : St) => jn1 (fun (j45 : Int64) (t46 : St) => o_X12_readOne_L253 N K40 y34 y35 y36 n9 j45 (x38 + 1) t46) fun J47 =>
    cmpI j42 0 (if j42 = 0 then (J47 x37 t43)
    else (bdI (f_X12_has N y34 x38 t43) fun v49 t48 =>
    cmpI v49 0 (if v49 = 0 then (J47 x37 t48)
    else (bdL (f_X12_one N x38 t48) fun v51 t50 =>
    J47 (x37 ||| v51) t50))))) fun J44 =>
    cmpI y35 15 (if y35 = 15 then (dvI x38 2 (
    cmpI (x38 % 2) 0 (if (x38 % 2) = 0 then (J44 1 t39)
    else (J44 0 t39))))
    else (cmpI y35 16 (if y35 = 16 then (dvI x38 2 (
    cmpI (x38 % 2) 1 (if (x38 % 2) = 1 then (J44 1 t39)
    else (J44 0 t39))))
    else (cmpI y35 17 (if y35 = 17 then (dvI x38 2 (
    dvI (x38 / 2) 2 (
    cmpI ((x38 / 2) % 2) 0 (if ((x38 / 2) % 2) = 0 then (J44 1 t39)
    else (J44 0 t39)))))
    else (cmpI y35 18 (if y35 = 18 then (dvI x38 2 (
    dvI (x38 / 2) 2 (
    cmpI ((x38 / 2) % 2) 1 (if ((x38 / 2) % 2) = 1 then (J44 1 t39)
    else (J44 0 t39)))))
    else (cmpI y35 19 (if y35 = 19 then (dvI x38 2 (
    cmpI (x38 / 2) y36 (if (x38 / 2) = y36 then (J44 1 t39)
    else (J44 0 t39))))
    else (cmpI y35 20 (if y35 = 20 then (cmpI x38 y36 (if x38 = y36 then (J44 1 t39)
    else (J44 0 t39)))
    else (ixI x38 64 (lt1 (t39.1 40 x38.toNat) fun v52 =>
    cmpI v52 y36 (if v52 = y36 then (J44 1 t39)
    else (J44 0 t39))))))))))))))))
    else (K40 x37 t39))
def o_X12_readOne (N : Nat) (fo_readOne : (Int64 → St → Option (Int64 × St))) (fo_readWho : (Int64 → St → Option (Int64 × St))) (a0 : Int64) (t : St) : Option (Int64 × St) :=
    lt1 (t.1 200 114) fun v1 =>
    ixI v1 10100 (lt1 (t.1 31 v1.toNat) fun v2 =>
    lt1 (t.1 200 114) fun v3 =>
    lt1 (pI t 200 114 (v3 + 1)) fun t4 =>
    cmpI v2 26 (if v2 = 26 then (bdL (fo_readOne a0 t4) fun v68 t67 =>
    some (a0 &&& (v68 ^^^ (-1 : Int64)), t67))
    else (cmpI v2 5040 (if v2 = 5040 then (bdL (fo_readWho a0 t4) fun v64 t63 =>
    lt1 (t63.1 200 114) fun v65 =>
    lt1 (pI t63 200 114 (v65 + 1)) fun t66 =>
    some (v64, t66))
    else (cmpI v2 14 (if v2 = 14 then (some (a0, t4))
    else (jn1 (fun (t5 : St) => lt1 (t5.1 200 114) fun v7 =>
    ixI v7 10100 (lt1 (t5.1 31 v7.toNat) fun v8 =>
    lt1 (t5.1 200 114) fun v9 =>
    lt1 (pI t5 200 114 (v9 + 1)) fun t10 =>
    jn1 (fun (j11 : Int) (t12 : St) => lt1 (t12.1 200 114) fun v14 =>
    jn1 (fun (j15 : Int) (t16 : St) => lt1 (pI t16 200 114 (v14 + j15)) fun t18 =>
    bdL (f_X12_greedy N a0 (v8 - 2000) j11 t18) fun v20 t19 =>
    some (v20, t19)) fun J17 =>
    cmpI v2 23 (if v2 = 23 then (J17 1 t12)
    else (J17 0 t12))) fun J13 =>
    cmpI v2 23 (if v2 = 23 then (lt1 (t10.1 200 114) fun v21 =>
    ixI v21 10100 (lt1 (t10.1 31 v21.toNat) fun v22 =>
    J13 (v22 - 1000) t10))
    else (J13 (-1) t10)))) fun J6 =>
    cmpI v2 22 (if v2 = 22 then (J6 t4)
    else (cmpI v2 23 (if v2 = 23 then (J6 t4)
    else (jn1 (fun (j23 : Int) (t24 : St) => jn1 (fun (j26 : Int) (t27 : St) => lt1 (t27.1 200 114) fun v29 =>
    jn1 (fun (j30 : Int) (t31 : St) => lt1 (pI t31 200 114 (v29 + j30)) fun t33 =>
    o_X12_readOne_L253 N (fun (k53 : Int64) (t54 : St) => some (k53, t54)) a0 v2 j26 N (0 : Int64) 0 t33) fun J32 =>
    jn1 (fun (t55 : St) => J32 1 t55) fun J56 =>
    cmpI v2 19 (if v2 = 19 then (J56 t27)
    else (cmpI v2 20 (if v2 = 20 then (J56 t27)
    else (cmpI v2 21 (if v2 = 21 then (J56 t27)
    else (J32 0 t27))))))) fun J28 =>
    cmpI v2 21 (if v2 = 21 then (lt1 (t24.1 200 114) fun v57 =>
    ixI v57 10100 (lt1 (t24.1 31 v57.toNat) fun v58 =>
    J28 (v58 - 31) t24))
    else (J28 j23 t24))) fun J25 =>
    jn1 (fun (t59 : St) => lt1 (t59.1 200 114) fun v61 =>
    ixI v61 10100 (lt1 (t59.1 31 v61.toNat) fun v62 =>
    J25 (v62 - 1000) t59)) fun J60 =>
    cmpI v2 19 (if v2 = 19 then (J60 t4)
    else (cmpI v2 20 (if v2 = 20 then (J60 t4)
    else (J25 (-1) t4)))))))))))))))
set_option maxHeartbeats 4000000 in
set_option maxRecDepth 100000 in
theorem t_o_X12_readOne_L253 {p : Program} {l : Launch} {e : Env} {s : State} {m : MethodId} {args : Array Value} {below : List Frame} {meth : Method} {c : Code} {E : cE} {A : Nat → Prop} {r : Nat → Nat} {mc ms : Nat} {z : Int64 × St} {N : Nat} {D9 : Nat} {K40 : (Int64 → St → Option (Int64 × St))} {y34 : Int64} {y35 : Int} {y36 : Int} (X : gX p s m meth c cX12_readOne 9 (some .long) yX12_readOne args E A) (hK40 : ∀ (q5 : Int64) (t9 : St), K40 q5 t9 = some z → gP p l e (rmS_readWho (D9 + 1)) s m args below meth c E A 9 (MQ below ((gqL E (gW E r shM) z) A) args s mc ms A) (gW E r shM) 445 [(5, .long q5)] [] t9) : ∀ (n9 : Nat) (x37 : Int64) (x38 : Int) (t39 : St), o_X12_readOne_L253 N K40 y34 y35 y36 n9 x37 x38 t39 = some z → gP p l e (rmS_readWho (D9 + 1)) s m args below meth c E A 9 (MQ below ((gqL E (gW E r shM) z) A) args s mc ms A) (gW E r shM) 253 [(0, .ref (r 200)), (1, .long y34), (3, iv y35), (4, iv y36), (5, .long x37), (7, iv x38)] [] t39 := by
  intro n9
  induction n9 with
  | zero => intro x37 x38 t39 h; cases h
  | succ n9 ih =>
    intro x37 x38 t39 h
    unfold o_X12_readOne_L253 at h
    refine g_iload X dX12_readOne_253 5 rfl ?_
    refine g_aload_n X dX12_readOne_255 0 rfl ?_
    refine g_getI X fM_37 rfl dX12_readOne_256 h (fun v41 h => ?_)
    refine g_icmp_ge (tgt := 445) X dX12_readOne_259 (by decide) h (fun h => ?_) (fun h => ?_)
    · exact g_sub (lv' := [(5, .long x37)]) [4] rfl (hK40 x37 t39 h)
    · refine g_iload_n X dX12_readOne_262 2 rfl ?_
      refine g_bipush X dX12_readOne_263 (by decide) ?_
      refine g_join (J := fun jj => ∀ (j42 : Int) (t43 : St), jj j42 t43 = some z → gP p l e (rmS_readWho (D9 + 1)) s m args below meth c E A 9 (MQ below ((gqL E (gW E r shM) z) A) args s mc ms A) (gW E r shM) 413 [(0, .ref (r 200)), (1, .long y34), (3, iv y35), (4, iv y36), (5, .long x37), (7, iv x38)] [iv j42] t43) h (fun j42 t43 h => ?_) (fun J44 hJ44 h => ?_)
      · refine g_istore (lv' := [(8, iv j42), (0, .ref (r 200)), (1, .long y34), (3, iv y35), (4, iv y36), (5, .long x37), (7, iv x38)]) X dX12_readOne_413 (by decide) rfl ?_
        refine g_iload X dX12_readOne_415 0 rfl ?_
        refine g_join (J := fun jj => ∀ (j45 : Int64) (t46 : St), jj j45 t46 = some z → gP p l e (rmS_readWho (D9 + 1)) s m args below meth c E A 9 (MQ below ((gqL E (gW E r shM) z) A) args s mc ms A) (gW E r shM) 439 [(0, .ref (r 200)), (1, .long y34), (3, iv y35), (4, iv y36), (5, .long j45), (7, iv x38)] [] t46) h (fun j45 t46 h => ?_) (fun J47 hJ47 h => ?_)
        · refine g_iinc (lv' := [(7, iv (x38 + 1)), (0, .ref (r 200)), (1, .long y34), (3, iv y35), (4, iv y36), (5, .long j45)]) X dX12_readOne_439 (k := 5) rfl (by decide) rfl ?_
          refine g_goto (tgt := 253) X dX12_readOne_442 (by decide) ?_
          exact g_sub (lv' := [(0, .ref (r 200)), (1, .long y34), (3, iv y35), (4, iv y36), (5, .long j45), (7, iv (x38 + 1))]) [1, 2, 3, 4, 5, 0] rfl (ih j45 (x38 + 1) t46 h)
        refine g_if_eq (tgt := 439) X dX12_readOne_417 (by decide) h (fun h => ?_) (fun h => ?_)
        · exact g_sub (lv' := [(0, .ref (r 200)), (1, .long y34), (3, iv y35), (4, iv y36), (5, .long x37), (7, iv x38)]) [1, 2, 3, 4, 5, 6] rfl (hJ47 x37 t43 h)
        · refine g_lload_n X dX12_readOne_420 2 rfl ?_
          refine g_iload X dX12_readOne_421 6 rfl ?_
          refine g_callsI (rest := []) X (fun u9 h9 => cp_X12_has l E r N y34 x38 t43 u9 h9) yy_X12_has wdT_X12_has wdM_RX12_446 rfl rfl (Nat.le_of_ble_eq_true rfl) dX12_readOne_423 ⟨by show 0 + 1 ≤ D9 + 1 + 3; omega, by show 8 + (3 + 11) + 0 ≤ 60 * (D9 + 1) + 86; omega⟩ ⟨rfl, rfl⟩ h (fun v49 t48 h => ?_)
          refine g_if_eq (tgt := 439) X dX12_readOne_426 (by decide) h (fun h => ?_) (fun h => ?_)
          · exact g_sub (lv' := [(0, .ref (r 200)), (1, .long y34), (3, iv y35), (4, iv y36), (5, .long x37), (7, iv x38)]) [1, 2, 3, 4, 5, 6] rfl (hJ47 x37 t48 h)
          · refine g_lload X dX12_readOne_429 5 rfl ?_
            refine g_iload X dX12_readOne_431 6 rfl ?_
            refine g_callsL (rest := [.long x37]) X (fun u9 h9 => cp_X12_one l E r N x38 t48 u9 h9) yy_X12_one wdT_X12_one wdM_RX12_442 rfl rfl (Nat.le_of_ble_eq_true rfl) dX12_readOne_433 ⟨by show 0 + 1 ≤ D9 + 1 + 3; omega, by show 8 + (1 + 11) + 0 ≤ 60 * (D9 + 1) + 86; omega⟩ ⟨rfl, rfl⟩ h (fun v51 t50 h => ?_)
            refine g_lor X dX12_readOne_436 ?_
            refine g_lstore (lv' := [(5, .long (x37 ||| v51)), (8, iv j42), (0, .ref (r 200)), (1, .long y34), (3, iv y35), (4, iv y36), (7, iv x38)]) X dX12_readOne_437 (by decide) rfl ?_
            exact g_sub (lv' := [(0, .ref (r 200)), (1, .long y34), (3, iv y35), (4, iv y36), (5, .long (x37 ||| v51)), (7, iv x38)]) [2, 3, 4, 5, 0, 6] rfl (hJ47 (x37 ||| v51) t50 h)
      refine g_icmp_ne (tgt := 283) X dX12_readOne_265 (by decide) h (fun h => ?_) (fun h => ?_)
      · refine g_iload_n X dX12_readOne_283 2 rfl ?_
        refine g_bipush X dX12_readOne_284 (by decide) ?_
        refine g_icmp_ne (tgt := 305) X dX12_readOne_286 (by decide) h (fun h => ?_) (fun h => ?_)
        · refine g_iload_n X dX12_readOne_305 2 rfl ?_
          refine g_bipush X dX12_readOne_306 (by decide) ?_
          refine g_icmp_ne (tgt := 328) X dX12_readOne_308 (by decide) h (fun h => ?_) (fun h => ?_)
          · refine g_iload_n X dX12_readOne_328 2 rfl ?_
            refine g_bipush X dX12_readOne_329 (by decide) ?_
            refine g_icmp_ne (tgt := 352) X dX12_readOne_331 (by decide) h (fun h => ?_) (fun h => ?_)
            · refine g_iload_n X dX12_readOne_352 2 rfl ?_
              refine g_bipush X dX12_readOne_353 (by decide) ?_
              refine g_icmp_ne (tgt := 375) X dX12_readOne_355 (by decide) h (fun h => ?_) (fun h => ?_)
              · refine g_iload_n X dX12_readOne_375 2 rfl ?_
                refine g_bipush X dX12_readOne_376 (by decide) ?_
                refine g_icmp_ne (tgt := 396) X dX12_readOne_378 (by decide) h (fun h => ?_) (fun h => ?_)
                · refine g_aload_n X dX12_readOne_396 0 rfl ?_
                  refine g_getR X fM_40 rfl dX12_readOne_397 ?_
                  refine g_iload X dX12_readOne_400 5 rfl ?_
                  refine g_iald X aM_40 dX12_readOne_402 h (fun v52 h => ?_)
                  refine g_iload X dX12_readOne_403 3 rfl ?_
                  refine g_icmp_ne (tgt := 412) X dX12_readOne_405 (by decide) h (fun h => ?_) (fun h => ?_)
                  · refine g_iconst X dX12_readOne_412 ?_
                    exact g_sub (lv' := [(0, .ref (r 200)), (1, .long y34), (3, iv y35), (4, iv y36), (5, .long x37), (7, iv x38)]) [0, 1, 2, 3, 4, 5] rfl (hJ44 0 t39 h)
                  · refine g_iconst X dX12_readOne_408 ?_
                    refine g_goto (tgt := 413) X dX12_readOne_409 (by decide) ?_
                    exact g_sub (lv' := [(0, .ref (r 200)), (1, .long y34), (3, iv y35), (4, iv y36), (5, .long x37), (7, iv x38)]) [0, 1, 2, 3, 4, 5] rfl (hJ44 1 t39 h)
                · refine g_iload X dX12_readOne_381 5 rfl ?_
                  refine g_iload X dX12_readOne_383 3 rfl ?_
                  refine g_icmp_ne (tgt := 392) X dX12_readOne_385 (by decide) h (fun h => ?_) (fun h => ?_)
                  · refine g_iconst X dX12_readOne_392 ?_
                    refine g_goto (tgt := 413) X dX12_readOne_393 (by decide) ?_
                    exact g_sub (lv' := [(0, .ref (r 200)), (1, .long y34), (3, iv y35), (4, iv y36), (5, .long x37), (7, iv x38)]) [0, 1, 2, 3, 4, 5] rfl (hJ44 0 t39 h)
                  · refine g_iconst X dX12_readOne_388 ?_
                    refine g_goto (tgt := 413) X dX12_readOne_389 (by decide) ?_
                    exact g_sub (lv' := [(0, .ref (r 200)), (1, .long y34), (3, iv y35), (4, iv y36), (5, .long x37), (7, iv x38)]) [0, 1, 2, 3, 4, 5] rfl (hJ44 1 t39 h)
              · refine g_iload X dX12_readOne_358 5 rfl ?_
                refine g_iconst X dX12_readOne_360 ?_
                refine g_idiv X dX12_readOne_361 h (fun h => ?_)
                refine g_iload X dX12_readOne_362 3 rfl ?_
                refine g_icmp_ne (tgt := 371) X dX12_readOne_364 (by decide) h (fun h => ?_) (fun h => ?_)
                · refine g_iconst X dX12_readOne_371 ?_
                  refine g_goto (tgt := 413) X dX12_readOne_372 (by decide) ?_
                  exact g_sub (lv' := [(0, .ref (r 200)), (1, .long y34), (3, iv y35), (4, iv y36), (5, .long x37), (7, iv x38)]) [0, 1, 2, 3, 4, 5] rfl (hJ44 0 t39 h)
                · refine g_iconst X dX12_readOne_367 ?_
                  refine g_goto (tgt := 413) X dX12_readOne_368 (by decide) ?_
                  exact g_sub (lv' := [(0, .ref (r 200)), (1, .long y34), (3, iv y35), (4, iv y36), (5, .long x37), (7, iv x38)]) [0, 1, 2, 3, 4, 5] rfl (hJ44 1 t39 h)
            · refine g_iload X dX12_readOne_334 5 rfl ?_
              refine g_iconst X dX12_readOne_336 ?_
              refine g_idiv X dX12_readOne_337 h (fun h => ?_)
              refine g_iconst X dX12_readOne_338 ?_
              refine g_irem X dX12_readOne_339 h (fun h => ?_)
              refine g_iconst X dX12_readOne_340 ?_
              refine g_icmp_ne (tgt := 348) X dX12_readOne_341 (by decide) h (fun h => ?_) (fun h => ?_)
              · refine g_iconst X dX12_readOne_348 ?_
                refine g_goto (tgt := 413) X dX12_readOne_349 (by decide) ?_
                exact g_sub (lv' := [(0, .ref (r 200)), (1, .long y34), (3, iv y35), (4, iv y36), (5, .long x37), (7, iv x38)]) [0, 1, 2, 3, 4, 5] rfl (hJ44 0 t39 h)
              · refine g_iconst X dX12_readOne_344 ?_
                refine g_goto (tgt := 413) X dX12_readOne_345 (by decide) ?_
                exact g_sub (lv' := [(0, .ref (r 200)), (1, .long y34), (3, iv y35), (4, iv y36), (5, .long x37), (7, iv x38)]) [0, 1, 2, 3, 4, 5] rfl (hJ44 1 t39 h)
          · refine g_iload X dX12_readOne_311 5 rfl ?_
            refine g_iconst X dX12_readOne_313 ?_
            refine g_idiv X dX12_readOne_314 h (fun h => ?_)
            refine g_iconst X dX12_readOne_315 ?_
            refine g_irem X dX12_readOne_316 h (fun h => ?_)
            refine g_if_ne (tgt := 324) X dX12_readOne_317 (by decide) h (fun h => ?_) (fun h => ?_)
            · refine g_iconst X dX12_readOne_324 ?_
              refine g_goto (tgt := 413) X dX12_readOne_325 (by decide) ?_
              exact g_sub (lv' := [(0, .ref (r 200)), (1, .long y34), (3, iv y35), (4, iv y36), (5, .long x37), (7, iv x38)]) [0, 1, 2, 3, 4, 5] rfl (hJ44 0 t39 h)
            · refine g_iconst X dX12_readOne_320 ?_
              refine g_goto (tgt := 413) X dX12_readOne_321 (by decide) ?_
              exact g_sub (lv' := [(0, .ref (r 200)), (1, .long y34), (3, iv y35), (4, iv y36), (5, .long x37), (7, iv x38)]) [0, 1, 2, 3, 4, 5] rfl (hJ44 1 t39 h)
        · refine g_iload X dX12_readOne_289 5 rfl ?_
          refine g_iconst X dX12_readOne_291 ?_
          refine g_irem X dX12_readOne_292 h (fun h => ?_)
          refine g_iconst X dX12_readOne_293 ?_
          refine g_icmp_ne (tgt := 301) X dX12_readOne_294 (by decide) h (fun h => ?_) (fun h => ?_)
          · refine g_iconst X dX12_readOne_301 ?_
            refine g_goto (tgt := 413) X dX12_readOne_302 (by decide) ?_
            exact g_sub (lv' := [(0, .ref (r 200)), (1, .long y34), (3, iv y35), (4, iv y36), (5, .long x37), (7, iv x38)]) [0, 1, 2, 3, 4, 5] rfl (hJ44 0 t39 h)
          · refine g_iconst X dX12_readOne_297 ?_
            refine g_goto (tgt := 413) X dX12_readOne_298 (by decide) ?_
            exact g_sub (lv' := [(0, .ref (r 200)), (1, .long y34), (3, iv y35), (4, iv y36), (5, .long x37), (7, iv x38)]) [0, 1, 2, 3, 4, 5] rfl (hJ44 1 t39 h)
      · refine g_iload X dX12_readOne_268 5 rfl ?_
        refine g_iconst X dX12_readOne_270 ?_
        refine g_irem X dX12_readOne_271 h (fun h => ?_)
        refine g_if_ne (tgt := 279) X dX12_readOne_272 (by decide) h (fun h => ?_) (fun h => ?_)
        · refine g_iconst X dX12_readOne_279 ?_
          refine g_goto (tgt := 413) X dX12_readOne_280 (by decide) ?_
          exact g_sub (lv' := [(0, .ref (r 200)), (1, .long y34), (3, iv y35), (4, iv y36), (5, .long x37), (7, iv x38)]) [0, 1, 2, 3, 4, 5] rfl (hJ44 0 t39 h)
        · refine g_iconst X dX12_readOne_275 ?_
          refine g_goto (tgt := 413) X dX12_readOne_276 (by decide) ?_
          exact g_sub (lv' := [(0, .ref (r 200)), (1, .long y34), (3, iv y35), (4, iv y36), (5, .long x37), (7, iv x38)]) [0, 1, 2, 3, 4, 5] rfl (hJ44 1 t39 h)
set_option maxHeartbeats 4000000 in
set_option maxRecDepth 100000 in
theorem b_o_X12_readOne {p : Program} {l : Launch} {e : Env} {s : State} {m : MethodId} {args : Array Value} {below : List Frame} {meth : Method} {c : Code} {E : cE} {A : Nat → Prop} {r : Nat → Nat} {mc ms : Nat} {z : Int64 × St} {N : Nat} {D9 : Nat} {fo_readOne : (Int64 → St → Option (Int64 × St))} {fo_readWho : (Int64 → St → Option (Int64 × St))} (ho_readOne : ∀ (a0 : Int64) (t : St) (z : Int64 × St), fo_readOne a0 t = some z → cM l E yX12_readOne cX12_readOne 9 (some .long) (rmS_readWho D9) [.ref (r 200), .long a0] (gW E r shM t) (gqL E (gW E r shM) z)) (ho_readWho : ∀ (a0 : Int64) (t : St) (z : Int64 × St), fo_readWho a0 t = some z → cM l E yX12_readWho cX12_readWho 5 (some .long) (rmS_readWho D9) [.ref (r 200), .long a0] (gW E r shM t) (gqL E (gW E r shM) z)) {a0 : Int64} {t : St} (X : gX p s m meth c cX12_readOne 9 (some .long) yX12_readOne args E A) (h : o_X12_readOne N fo_readOne fo_readWho a0 t = some z) : gP p l e (rmS_readWho (D9 + 1)) s m args below meth c E A 9 (MQ below ((gqL E (gW E r shM) z) A) args s mc ms A) (gW E r shM) 0 [(0, .ref (r 200)), (1, .long a0)] [] t := by
  unfold o_X12_readOne at h
  refine g_aload_n X dX12_readOne_0 0 rfl ?_
  refine g_getR X fM_31 rfl dX12_readOne_1 ?_
  refine g_aload_n X dX12_readOne_4 0 rfl ?_
  refine g_getI X fM_114 rfl dX12_readOne_5 h (fun v1 h => ?_)
  refine g_iald X aM_31 dX12_readOne_8 h (fun v2 h => ?_)
  refine g_istore_n (lv' := [(3, iv v2), (0, .ref (r 200)), (1, .long a0)]) X dX12_readOne_9 rfl (by decide) rfl ?_
  refine g_aload_n X dX12_readOne_10 1 rfl ?_
  refine g_dup X rfl dX12_readOne_11 ?_
  refine g_getI X fM_114 rfl dX12_readOne_12 h (fun v3 h => ?_)
  refine g_iconst X dX12_readOne_15 ?_
  refine g_iadd X dX12_readOne_16 ?_
  refine g_putI X fM_114w rfl dX12_readOne_17 h (fun t4 h => ?_)
  refine g_iload_n X dX12_readOne_20 0 rfl ?_
  refine g_bipush X dX12_readOne_21 (by decide) ?_
  refine g_icmp_ne (tgt := 38) X dX12_readOne_23 (by decide) h (fun h => ?_) (fun h => ?_)
  · refine g_iload_n X dX12_readOne_38 0 rfl ?_
    refine g_sipush X dX12_readOne_39 (by decide) ?_
    refine g_icmp_ne (tgt := 65) X dX12_readOne_42 (by decide) h (fun h => ?_) (fun h => ?_)
    · refine g_iload_n X dX12_readOne_65 0 rfl ?_
      refine g_bipush X dX12_readOne_66 (by decide) ?_
      refine g_icmp_ne (tgt := 73) X dX12_readOne_68 (by decide) h (fun h => ?_) (fun h => ?_)
      · refine g_iload_n X dX12_readOne_73 0 rfl ?_
        refine g_bipush X dX12_readOne_74 (by decide) ?_
        refine g_join (J := fun jj => ∀ (t5 : St), jj  t5 = some z → gP p l e (rmS_readWho (D9 + 1)) s m args below meth c E A 9 (MQ below ((gqL E (gW E r shM) z) A) args s mc ms A) (gW E r shM) 85 [(0, .ref (r 200)), (1, .long a0), (3, iv v2)] [] t5) h (fun  t5 h => ?_) (fun J6 hJ6 h => ?_)
        · refine g_aload_n X dX12_readOne_85 0 rfl ?_
          refine g_getR X fM_31 rfl dX12_readOne_86 ?_
          refine g_aload_n X dX12_readOne_89 0 rfl ?_
          refine g_getI X fM_114 rfl dX12_readOne_90 h (fun v7 h => ?_)
          refine g_iald X aM_31 dX12_readOne_93 h (fun v8 h => ?_)
          refine g_sipush X dX12_readOne_94 (by decide) ?_
          refine g_isub X dX12_readOne_97 ?_
          refine g_istore (lv' := [(4, iv (v8 - 2000)), (0, .ref (r 200)), (1, .long a0), (3, iv v2)]) X dX12_readOne_98 (by decide) rfl ?_
          refine g_aload_n X dX12_readOne_100 1 rfl ?_
          refine g_dup X rfl dX12_readOne_101 ?_
          refine g_getI X fM_114 rfl dX12_readOne_102 h (fun v9 h => ?_)
          refine g_iconst X dX12_readOne_105 ?_
          refine g_iadd X dX12_readOne_106 ?_
          refine g_putI X fM_114w rfl dX12_readOne_107 h (fun t10 h => ?_)
          refine g_iload_n X dX12_readOne_110 3 rfl ?_
          refine g_bipush X dX12_readOne_111 (by decide) ?_
          refine g_join (J := fun jj => ∀ (j11 : Int) (t12 : St), jj j11 t12 = some z → gP p l e (rmS_readWho (D9 + 1)) s m args below meth c E A 9 (MQ below ((gqL E (gW E r shM) z) A) args s mc ms A) (gW E r shM) 133 [(0, .ref (r 200)), (1, .long a0), (3, iv v2), (4, iv (v8 - 2000))] [iv j11] t12) h (fun j11 t12 h => ?_) (fun J13 hJ13 h => ?_)
          · refine g_istore (lv' := [(5, iv j11), (0, .ref (r 200)), (1, .long a0), (3, iv v2), (4, iv (v8 - 2000))]) X dX12_readOne_133 (by decide) rfl ?_
            refine g_aload_n X dX12_readOne_135 1 rfl ?_
            refine g_dup X rfl dX12_readOne_136 ?_
            refine g_getI X fM_114 rfl dX12_readOne_137 h (fun v14 h => ?_)
            refine g_iload_n X dX12_readOne_140 3 rfl ?_
            refine g_bipush X dX12_readOne_141 (by decide) ?_
            refine g_join (J := fun jj => ∀ (j15 : Int) (t16 : St), jj j15 t16 = some z → gP p l e (rmS_readWho (D9 + 1)) s m args below meth c E A 9 (MQ below ((gqL E (gW E r shM) z) A) args s mc ms A) (gW E r shM) 151 [(0, .ref (r 200)), (1, .long a0), (4, iv (v8 - 2000)), (5, iv j11)] [iv j15, iv v14, .ref (r 200)] t16) h (fun j15 t16 h => ?_) (fun J17 hJ17 h => ?_)
            · refine g_iadd X dX12_readOne_151 ?_
              refine g_putI X fM_114w rfl dX12_readOne_152 h (fun t18 h => ?_)
              refine g_aload_n X dX12_readOne_155 0 rfl ?_
              refine g_lload_n X dX12_readOne_156 1 rfl ?_
              refine g_iload X dX12_readOne_157 2 rfl ?_
              refine g_iload X dX12_readOne_159 3 rfl ?_
              refine g_callL (rest := []) X (fun u9 h9 => cp_X12_greedy l E r N a0 (v8 - 2000) j11 t18 u9 h9) yy_X12_greedy yi_X12_greedy wdM_RX12_463 0 12 (gW_at oM) rfl rfl rfl (Nat.le_of_ble_eq_true rfl) dX12_readOne_161 ⟨by show 2 + 1 ≤ D9 + 1 + 3; omega, by show 8 + (12 + 11) + 55 ≤ 60 * (D9 + 1) + 86; omega⟩ ⟨rfl, rfl⟩ h (fun v20 t19 h => ?_)
              exact g_lret X h dX12_readOne_164
            refine g_icmp_ne (tgt := 150) X dX12_readOne_143 (by decide) h (fun h => ?_) (fun h => ?_)
            · refine g_iconst X dX12_readOne_150 ?_
              exact g_sub (lv' := [(0, .ref (r 200)), (1, .long a0), (4, iv (v8 - 2000)), (5, iv j11)]) [1, 2, 4, 0] rfl (hJ17 0 t12 h)
            · refine g_iconst X dX12_readOne_146 ?_
              refine g_goto (tgt := 151) X dX12_readOne_147 (by decide) ?_
              exact g_sub (lv' := [(0, .ref (r 200)), (1, .long a0), (4, iv (v8 - 2000)), (5, iv j11)]) [1, 2, 4, 0] rfl (hJ17 1 t12 h)
          refine g_icmp_ne (tgt := 132) X dX12_readOne_113 (by decide) h (fun h => ?_) (fun h => ?_)
          · refine g_iconst X dX12_readOne_132 ?_
            exact g_sub (lv' := [(0, .ref (r 200)), (1, .long a0), (3, iv v2), (4, iv (v8 - 2000))]) [1, 2, 3, 0] rfl (hJ13 (-1) t10 h)
          · refine g_aload_n X dX12_readOne_116 1 rfl ?_
            refine g_getR X fM_31 rfl dX12_readOne_117 ?_
            refine g_aload_n X dX12_readOne_120 1 rfl ?_
            refine g_getI X fM_114 rfl dX12_readOne_121 h (fun v21 h => ?_)
            refine g_iald X aM_31 dX12_readOne_124 h (fun v22 h => ?_)
            refine g_sipush X dX12_readOne_125 (by decide) ?_
            refine g_isub X dX12_readOne_128 ?_
            refine g_goto (tgt := 133) X dX12_readOne_129 (by decide) ?_
            exact g_sub (lv' := [(0, .ref (r 200)), (1, .long a0), (3, iv v2), (4, iv (v8 - 2000))]) [1, 2, 3, 0] rfl (hJ13 (v22 - 1000) t10 h)
        refine g_icmp_eq (tgt := 85) X dX12_readOne_76 (by decide) h (fun h => ?_) (fun h => ?_)
        · exact g_sub (lv' := [(0, .ref (r 200)), (1, .long a0), (3, iv v2)]) [1, 2, 0] rfl (hJ6 t4 h)
        · refine g_iload_n X dX12_readOne_79 0 rfl ?_
          refine g_bipush X dX12_readOne_80 (by decide) ?_
          refine g_icmp_ne (tgt := 165) X dX12_readOne_82 (by decide) h (fun h => ?_) (fun h => ?_)
          · refine g_iconst X dX12_readOne_165 ?_
            refine g_istore (lv' := [(4, iv (-1)), (3, iv v2), (0, .ref (r 200)), (1, .long a0)]) X dX12_readOne_166 (by decide) rfl ?_
            refine g_iload_n X dX12_readOne_168 1 rfl ?_
            refine g_bipush X dX12_readOne_169 (by decide) ?_
            refine g_join (J := fun jj => ∀ (j23 : Int) (t24 : St), jj j23 t24 = some z → gP p l e (rmS_readWho (D9 + 1)) s m args below meth c E A 9 (MQ below ((gqL E (gW E r shM) z) A) args s mc ms A) (gW E r shM) 195 [(0, .ref (r 200)), (1, .long a0), (3, iv v2), (4, iv j23)] [] t24) h (fun j23 t24 h => ?_) (fun J25 hJ25 h => ?_)
            · refine g_iload_n X dX12_readOne_195 2 rfl ?_
              refine g_bipush X dX12_readOne_196 (by decide) ?_
              refine g_join (J := fun jj => ∀ (j26 : Int) (t27 : St), jj j26 t27 = some z → gP p l e (rmS_readWho (D9 + 1)) s m args below meth c E A 9 (MQ below ((gqL E (gW E r shM) z) A) args s mc ms A) (gW E r shM) 215 [(0, .ref (r 200)), (1, .long a0), (3, iv v2), (4, iv j26)] [] t27) h (fun j26 t27 h => ?_) (fun J28 hJ28 h => ?_)
              · refine g_aload_n X dX12_readOne_215 0 rfl ?_
                refine g_dup X rfl dX12_readOne_216 ?_
                refine g_getI X fM_114 rfl dX12_readOne_217 h (fun v29 h => ?_)
                refine g_iload_n X dX12_readOne_220 2 rfl ?_
                refine g_bipush X dX12_readOne_221 (by decide) ?_
                refine g_join (J := fun jj => ∀ (j30 : Int) (t31 : St), jj j30 t31 = some z → gP p l e (rmS_readWho (D9 + 1)) s m args below meth c E A 9 (MQ below ((gqL E (gW E r shM) z) A) args s mc ms A) (gW E r shM) 243 [(0, .ref (r 200)), (1, .long a0), (3, iv v2), (4, iv j26)] [iv j30, iv v29, .ref (r 200)] t31) h (fun j30 t31 h => ?_) (fun J32 hJ32 h => ?_)
                · refine g_iadd X dX12_readOne_243 ?_
                  refine g_putI X fM_114w rfl dX12_readOne_244 h (fun t33 h => ?_)
                  refine g_lconst (v := 0) X dX12_readOne_247 (by decide) ?_
                  refine g_lstore (lv' := [(5, .long (0 : Int64)), (0, .ref (r 200)), (1, .long a0), (3, iv v2), (4, iv j26)]) X dX12_readOne_248 (by decide) rfl ?_
                  refine g_iconst X dX12_readOne_250 ?_
                  refine g_istore (lv' := [(7, iv 0), (5, .long (0 : Int64)), (0, .ref (r 200)), (1, .long a0), (3, iv v2), (4, iv j26)]) X dX12_readOne_251 (by decide) rfl ?_
                  refine g_sub (lv' := [(0, .ref (r 200)), (1, .long a0), (3, iv v2), (4, iv j26), (5, .long (0 : Int64)), (7, iv 0)]) [2, 3, 4, 5, 1, 0] rfl (t_o_X12_readOne_L253 X (fun k53 t54 h => ?_) N (0 : Int64) 0 t33 h)
                  · refine g_lload X dX12_readOne_445 0 rfl ?_
                    exact g_lret X h dX12_readOne_447
                refine g_join (J := fun jj => ∀ (t55 : St), jj  t55 = some z → gP p l e (rmS_readWho (D9 + 1)) s m args below meth c E A 9 (MQ below ((gqL E (gW E r shM) z) A) args s mc ms A) (gW E r shM) 238 [(0, .ref (r 200)), (1, .long a0), (3, iv v2), (4, iv j26)] [iv v29, .ref (r 200)] t55) h (fun  t55 h => ?_) (fun J56 hJ56 h => ?_)
                · refine g_iconst X dX12_readOne_238 ?_
                  refine g_goto (tgt := 243) X dX12_readOne_239 (by decide) ?_
                  exact g_sub (lv' := [(0, .ref (r 200)), (1, .long a0), (3, iv v2), (4, iv j26)]) [0, 1, 2, 3] rfl (hJ32 1 t55 h)
                refine g_icmp_eq (tgt := 238) X dX12_readOne_223 (by decide) h (fun h => ?_) (fun h => ?_)
                · exact g_sub (lv' := [(0, .ref (r 200)), (1, .long a0), (3, iv v2), (4, iv j26)]) [0, 1, 2, 3] rfl (hJ56 t27 h)
                · refine g_iload_n X dX12_readOne_226 2 rfl ?_
                  refine g_bipush X dX12_readOne_227 (by decide) ?_
                  refine g_icmp_eq (tgt := 238) X dX12_readOne_229 (by decide) h (fun h => ?_) (fun h => ?_)
                  · exact g_sub (lv' := [(0, .ref (r 200)), (1, .long a0), (3, iv v2), (4, iv j26)]) [0, 1, 2, 3] rfl (hJ56 t27 h)
                  · refine g_iload_n X dX12_readOne_232 2 rfl ?_
                    refine g_bipush X dX12_readOne_233 (by decide) ?_
                    refine g_icmp_ne (tgt := 242) X dX12_readOne_235 (by decide) h (fun h => ?_) (fun h => ?_)
                    · refine g_iconst X dX12_readOne_242 ?_
                      exact g_sub (lv' := [(0, .ref (r 200)), (1, .long a0), (3, iv v2), (4, iv j26)]) [0, 1, 2, 3] rfl (hJ32 0 t27 h)
                    · exact g_sub (lv' := [(0, .ref (r 200)), (1, .long a0), (3, iv v2), (4, iv j26)]) [0, 1, 2, 3] rfl (hJ56 t27 h)
              refine g_icmp_ne (tgt := 215) X dX12_readOne_198 (by decide) h (fun h => ?_) (fun h => ?_)
              · exact g_sub (lv' := [(0, .ref (r 200)), (1, .long a0), (3, iv v2), (4, iv j23)]) [0, 1, 2, 3] rfl (hJ28 j23 t24 h)
              · refine g_aload_n X dX12_readOne_201 0 rfl ?_
                refine g_getR X fM_31 rfl dX12_readOne_202 ?_
                refine g_aload_n X dX12_readOne_205 0 rfl ?_
                refine g_getI X fM_114 rfl dX12_readOne_206 h (fun v57 h => ?_)
                refine g_iald X aM_31 dX12_readOne_209 h (fun v58 h => ?_)
                refine g_bipush X dX12_readOne_210 (by decide) ?_
                refine g_isub X dX12_readOne_212 ?_
                refine g_istore (lv' := [(4, iv (v58 - 31)), (0, .ref (r 200)), (1, .long a0), (3, iv v2)]) X dX12_readOne_213 (by decide) rfl ?_
                exact g_sub (lv' := [(0, .ref (r 200)), (1, .long a0), (3, iv v2), (4, iv (v58 - 31))]) [1, 2, 3, 0] rfl (hJ28 (v58 - 31) t24 h)
            refine g_join (J := fun jj => ∀ (t59 : St), jj  t59 = some z → gP p l e (rmS_readWho (D9 + 1)) s m args below meth c E A 9 (MQ below ((gqL E (gW E r shM) z) A) args s mc ms A) (gW E r shM) 180 [(0, .ref (r 200)), (1, .long a0), (3, iv v2)] [] t59) h (fun  t59 h => ?_) (fun J60 hJ60 h => ?_)
            · refine g_aload_n X dX12_readOne_180 0 rfl ?_
              refine g_getR X fM_31 rfl dX12_readOne_181 ?_
              refine g_aload_n X dX12_readOne_184 0 rfl ?_
              refine g_getI X fM_114 rfl dX12_readOne_185 h (fun v61 h => ?_)
              refine g_iald X aM_31 dX12_readOne_188 h (fun v62 h => ?_)
              refine g_sipush X dX12_readOne_189 (by decide) ?_
              refine g_isub X dX12_readOne_192 ?_
              refine g_istore (lv' := [(4, iv (v62 - 1000)), (0, .ref (r 200)), (1, .long a0), (3, iv v2)]) X dX12_readOne_193 (by decide) rfl ?_
              exact g_sub (lv' := [(0, .ref (r 200)), (1, .long a0), (3, iv v2), (4, iv (v62 - 1000))]) [1, 2, 3, 0] rfl (hJ25 (v62 - 1000) t59 h)
            refine g_icmp_eq (tgt := 180) X dX12_readOne_171 (by decide) h (fun h => ?_) (fun h => ?_)
            · exact g_sub (lv' := [(0, .ref (r 200)), (1, .long a0), (3, iv v2)]) [2, 3, 1] rfl (hJ60 t4 h)
            · refine g_iload_n X dX12_readOne_174 1 rfl ?_
              refine g_bipush X dX12_readOne_175 (by decide) ?_
              refine g_icmp_ne (tgt := 195) X dX12_readOne_177 (by decide) h (fun h => ?_) (fun h => ?_)
              · exact g_sub (lv' := [(0, .ref (r 200)), (1, .long a0), (3, iv v2), (4, iv (-1))]) [2, 3, 1, 0] rfl (hJ25 (-1) t4 h)
              · exact g_sub (lv' := [(0, .ref (r 200)), (1, .long a0), (3, iv v2)]) [2, 3, 1] rfl (hJ60 t4 h)
          · exact g_sub (lv' := [(0, .ref (r 200)), (1, .long a0), (3, iv v2)]) [1, 2, 0] rfl (hJ6 t4 h)
      · refine g_lload_n X dX12_readOne_71 2 rfl ?_
        exact g_lret X h dX12_readOne_72
    · refine g_aload_n X dX12_readOne_45 1 rfl ?_
      refine g_lload_n X dX12_readOne_46 2 rfl ?_
      refine g_callL (rest := []) X (fun u9 h9 => ho_readWho a0 t4 u9 h9) yy_X12_readWho yi_X12_readWho wdM_RX12_460 0 12 (gW_at oM) rfl rfl rfl (Nat.le_of_ble_eq_true rfl) dX12_readOne_47 ⟨by show D9 + 3 + 1 ≤ D9 + 1 + 3; omega, by show 8 + (5 + 11) + (60 * D9 + 86) ≤ 60 * (D9 + 1) + 86; omega⟩ ⟨rfl, rfl⟩ h (fun v64 t63 h => ?_)
      refine g_lstore (lv' := [(4, .long v64), (3, iv v2), (0, .ref (r 200)), (1, .long a0)]) X dX12_readOne_50 (by decide) rfl ?_
      refine g_aload_n X dX12_readOne_52 2 rfl ?_
      refine g_dup X rfl dX12_readOne_53 ?_
      refine g_getI X fM_114 rfl dX12_readOne_54 h (fun v65 h => ?_)
      refine g_iconst X dX12_readOne_57 ?_
      refine g_iadd X dX12_readOne_58 ?_
      refine g_putI X fM_114w rfl dX12_readOne_59 h (fun t66 h => ?_)
      refine g_lload X dX12_readOne_62 0 rfl ?_
      exact g_lret X h dX12_readOne_64
  · refine g_lload_n X dX12_readOne_26 2 rfl ?_
    refine g_aload_n X dX12_readOne_27 1 rfl ?_
    refine g_lload_n X dX12_readOne_28 2 rfl ?_
    refine g_callL (rest := [.long a0]) X (fun u9 h9 => ho_readOne a0 t4 u9 h9) yy_X12_readOne yi_X12_readOne wdM_RX12_457 0 12 (gW_at oM) rfl rfl rfl (Nat.le_of_ble_eq_true rfl) dX12_readOne_29 ⟨by show D9 + 3 + 1 ≤ D9 + 1 + 3; omega, by show 8 + (9 + 11) + (60 * D9 + 86) ≤ 60 * (D9 + 1) + 86; omega⟩ ⟨rfl, rfl⟩ h (fun v68 t67 h => ?_)
    refine g_ldc2 X rfl wdL_RX12_440 dX12_readOne_32 ?_
    refine g_lxor X dX12_readOne_35 ?_
    refine g_land X dX12_readOne_36 ?_
    exact g_lret X h dX12_readOne_37
set_option maxHeartbeats 4000000 in
set_option maxRecDepth 100000 in
theorem cpo_X12_readOne (l : Launch) (E : cE) (r : Nat → Nat) (N : Nat) (D9 : Nat) (fo_readOne : (Int64 → St → Option (Int64 × St))) (fo_readWho : (Int64 → St → Option (Int64 × St))) (ho_readOne : ∀ (a0 : Int64) (t : St) (z : Int64 × St), fo_readOne a0 t = some z → cM l E yX12_readOne cX12_readOne 9 (some .long) (rmS_readWho D9) [.ref (r 200), .long a0] (gW E r shM t) (gqL E (gW E r shM) z)) (ho_readWho : ∀ (a0 : Int64) (t : St) (z : Int64 × St), fo_readWho a0 t = some z → cM l E yX12_readWho cX12_readWho 5 (some .long) (rmS_readWho D9) [.ref (r 200), .long a0] (gW E r shM t) (gqL E (gW E r shM) z)) (a0 : Int64) (t : St) (z : Int64 × St) (h : o_X12_readOne N fo_readOne fo_readWho a0 t = some z) : cM l E yX12_readOne cX12_readOne 9 (some .long) (rmS_readWho (D9 + 1)) [.ref (r 200), .long a0] (gW E r shM t) (gqL E (gW E r shM) z) := by
  refine g_of (w := gW E r shM) (by decide) (Nat.le_of_ble_eq_true rfl) ?_
  intro p e s m below meth c A X
  exact g_sub (lv' := [(0, .ref (r 200)), (1, .long a0)]) [0, 1] rfl (b_o_X12_readOne ho_readOne ho_readWho X h)
def rec_readWho (N : Nat) : Nat → (Int64 → St → Option (Int64 × St)) × (Int64 → St → Option (Int64 × St)) × (Int64 → St → Option (Int64 × St))
  | 0 => (fun _ _ => none, fun _ _ => none, fun _ _ => none)
  | D + 1 => (o_X12_readWho N (rec_readWho N D).2.1, o_X12_readAnd N (rec_readWho N D).2.2, o_X12_readOne N (rec_readWho N D).2.2 (rec_readWho N D).1)
theorem rec_readWho_ok (l : Launch) (E : cE) (r : Nat → Nat) (N : Nat) : ∀ D : Nat, (∀ (a0 : Int64) (t : St) (z : Int64 × St), (rec_readWho N D).1 a0 t = some z → cM l E yX12_readWho cX12_readWho 5 (some .long) (rmS_readWho D) [.ref (r 200), .long a0] (gW E r shM t) (gqL E (gW E r shM) z)) ∧ (∀ (a0 : Int64) (t : St) (z : Int64 × St), (rec_readWho N D).2.1 a0 t = some z → cM l E yX12_readAnd cX12_readAnd 5 (some .long) (rmS_readWho D) [.ref (r 200), .long a0] (gW E r shM t) (gqL E (gW E r shM) z)) ∧ (∀ (a0 : Int64) (t : St) (z : Int64 × St), (rec_readWho N D).2.2 a0 t = some z → cM l E yX12_readOne cX12_readOne 9 (some .long) (rmS_readWho D) [.ref (r 200), .long a0] (gW E r shM t) (gqL E (gW E r shM) z)) := by
  intro D
  induction D with
  | zero => exact ⟨fun _ _ _ h => (by cases h), fun _ _ _ h => (by cases h), fun _ _ _ h => (by cases h)⟩
  | succ D ih => exact ⟨fun a0 t z h => cpo_X12_readWho l E r N D _ ih.2.1 a0 t z h, fun a0 t z h => cpo_X12_readAnd l E r N D _ ih.2.2 a0 t z h, fun a0 t z h => cpo_X12_readOne l E r N D _ _ ih.2.2 ih.1 a0 t z h⟩
def f_X12_readWho (N : Nat) (a0 : Int64) (t : St) : Option (Int64 × St) := (rec_readWho N 100).1 a0 t
abbrev rm_f_X12_readWho : Room := { frames := 103, cells := 0, slots := 0, locals := 6086 }
theorem cp_X12_readWho (l : Launch) (E : cE) (r : Nat → Nat) (N : Nat) (a0 : Int64) (t : St) (z : Int64 × St) (h : f_X12_readWho N a0 t = some z) : cM l E yX12_readWho cX12_readWho 5 (some .long) rm_f_X12_readWho [.ref (r 200), .long a0] (gW E r shM t) (gqL E (gW E r shM) z) := (rec_readWho_ok l E r N 100).1 a0 t z h
def f_X12_readAnd (N : Nat) (a0 : Int64) (t : St) : Option (Int64 × St) := (rec_readWho N 100).2.1 a0 t
abbrev rm_f_X12_readAnd : Room := { frames := 103, cells := 0, slots := 0, locals := 6086 }
theorem cp_X12_readAnd (l : Launch) (E : cE) (r : Nat → Nat) (N : Nat) (a0 : Int64) (t : St) (z : Int64 × St) (h : f_X12_readAnd N a0 t = some z) : cM l E yX12_readAnd cX12_readAnd 5 (some .long) rm_f_X12_readAnd [.ref (r 200), .long a0] (gW E r shM t) (gqL E (gW E r shM) z) := (rec_readWho_ok l E r N 100).2.1 a0 t z h
def f_X12_readOne (N : Nat) (a0 : Int64) (t : St) : Option (Int64 × St) := (rec_readWho N 100).2.2 a0 t
abbrev rm_f_X12_readOne : Room := { frames := 103, cells := 0, slots := 0, locals := 6086 }
theorem cp_X12_readOne (l : Launch) (E : cE) (r : Nat → Nat) (N : Nat) (a0 : Int64) (t : St) (z : Int64 × St) (h : f_X12_readOne N a0 t = some z) : cM l E yX12_readOne cX12_readOne 9 (some .long) rm_f_X12_readOne [.ref (r 200), .long a0] (gW E r shM t) (gqL E (gW E r shM) z) := (rec_readWho_ok l E r N 100).2.2 a0 t z h
