theorem dX12_form_0 : decode cX12_form 0 = .ok (.aload_n 0, 1) := by decide +kernel
theorem dX12_form_1 : decode cX12_form 1 = .ok (.getfield 362, 3) := by decide +kernel
theorem dX12_form_4 : decode cX12_form 4 = .ok (.bipush 40, 2) := by decide +kernel
theorem dX12_form_6 : decode cX12_form 6 = .ok (.if_icmp .ne 9, 3) := by decide +kernel
theorem dX12_form_9 : decode cX12_form 9 = .ok (.aload_n 0, 1) := by decide +kernel
theorem dX12_form_10 : decode cX12_form 10 = .ok (.iconst 5, 1) := by decide +kernel
theorem dX12_form_11 : decode cX12_form 11 = .ok (.invokevirtual 317, 3) := by decide +kernel
theorem dX12_form_14 : decode cX12_form 14 = .ok (.ireturn, 1) := by decide +kernel
theorem dX12_form_15 : decode cX12_form 15 = .ok (.aload_n 0, 1) := by decide +kernel
theorem dX12_form_16 : decode cX12_form 16 = .ok (.invokevirtual 323, 3) := by decide +kernel
theorem dX12_form_19 : decode cX12_form 19 = .ok (.aload_n 0, 1) := by decide +kernel
theorem dX12_form_20 : decode cX12_form 20 = .ok (.invokevirtual 365, 3) := by decide +kernel
theorem dX12_form_23 : decode cX12_form 23 = .ok (.ifCond .ne 5, 3) := by decide +kernel
theorem dX12_form_26 : decode cX12_form 26 = .ok (.iconst 0, 1) := by decide +kernel
theorem dX12_form_27 : decode cX12_form 27 = .ok (.ireturn, 1) := by decide +kernel
theorem dX12_form_28 : decode cX12_form 28 = .ok (.aload_n 0, 1) := by decide +kernel
theorem dX12_form_29 : decode cX12_form 29 = .ok (.getfield 353, 3) := by decide +kernel
theorem dX12_form_32 : decode cX12_form 32 = .ok (.istore_n 1, 1) := by decide +kernel
theorem dX12_form_33 : decode cX12_form 33 = .ok (.aload_n 0, 1) := by decide +kernel
theorem dX12_form_34 : decode cX12_form 34 = .ok (.getfield 356, 3) := by decide +kernel
theorem dX12_form_37 : decode cX12_form 37 = .ok (.istore_n 2, 1) := by decide +kernel
theorem dX12_form_38 : decode cX12_form 38 = .ok (.aload_n 0, 1) := by decide +kernel
theorem dX12_form_39 : decode cX12_form 39 = .ok (.bipush 61, 2) := by decide +kernel
theorem dX12_form_41 : decode cX12_form 41 = .ok (.invokevirtual 344, 3) := by decide +kernel
theorem dX12_form_44 : decode cX12_form 44 = .ok (.ifCond .ne 5, 3) := by decide +kernel
theorem dX12_form_47 : decode cX12_form 47 = .ok (.iconst 0, 1) := by decide +kernel
theorem dX12_form_48 : decode cX12_form 48 = .ok (.ireturn, 1) := by decide +kernel
theorem dX12_form_49 : decode cX12_form 49 = .ok (.iconst 0, 1) := by decide +kernel
theorem dX12_form_50 : decode cX12_form 50 = .ok (.istore_n 3, 1) := by decide +kernel
theorem dX12_form_51 : decode cX12_form 51 = .ok (.iconst 1, 1) := by decide +kernel
theorem dX12_form_52 : decode cX12_form 52 = .ok (.istore 4, 2) := by decide +kernel
theorem dX12_form_54 : decode cX12_form 54 = .ok (.iload 4, 2) := by decide +kernel
theorem dX12_form_56 : decode cX12_form 56 = .ok (.ifCond .eq 51, 3) := by decide +kernel
theorem dX12_form_59 : decode cX12_form 59 = .ok (.aload_n 0, 1) := by decide +kernel
theorem dX12_form_60 : decode cX12_form 60 = .ok (.iload_n 3, 1) := by decide +kernel
theorem dX12_form_61 : decode cX12_form 61 = .ok (.invokevirtual 369, 3) := by decide +kernel
theorem dX12_form_64 : decode cX12_form 64 = .ok (.ifCond .ne 5, 3) := by decide +kernel
theorem dX12_form_67 : decode cX12_form 67 = .ok (.iconst 0, 1) := by decide +kernel
theorem dX12_form_68 : decode cX12_form 68 = .ok (.ireturn, 1) := by decide +kernel
theorem dX12_form_69 : decode cX12_form 69 = .ok (.iinc 3 1, 3) := by decide +kernel
theorem dX12_form_72 : decode cX12_form 72 = .ok (.aload_n 0, 1) := by decide +kernel
theorem dX12_form_73 : decode cX12_form 73 = .ok (.bipush 44, 2) := by decide +kernel
theorem dX12_form_75 : decode cX12_form 75 = .ok (.invokevirtual 332, 3) := by decide +kernel
theorem dX12_form_78 : decode cX12_form 78 = .ok (.istore 4, 2) := by decide +kernel
theorem dX12_form_80 : decode cX12_form 80 = .ok (.iload 4, 2) := by decide +kernel
theorem dX12_form_82 : decode cX12_form 82 = .ok (.ifCond .ne 18, 3) := by decide +kernel
theorem dX12_form_85 : decode cX12_form 85 = .ok (.aload_n 0, 1) := by decide +kernel
theorem dX12_form_86 : decode cX12_form 86 = .ok (.bipush 59, 2) := by decide +kernel
theorem dX12_form_88 : decode cX12_form 88 = .ok (.invokevirtual 332, 3) := by decide +kernel
theorem dX12_form_91 : decode cX12_form 91 = .ok (.ifCond .ne 9, 3) := by decide +kernel
theorem dX12_form_94 : decode cX12_form 94 = .ok (.aload_n 0, 1) := by decide +kernel
theorem dX12_form_95 : decode cX12_form 95 = .ok (.iconst 1, 1) := by decide +kernel
theorem dX12_form_96 : decode cX12_form 96 = .ok (.invokevirtual 317, 3) := by decide +kernel
theorem dX12_form_99 : decode cX12_form 99 = .ok (.ireturn, 1) := by decide +kernel
theorem dX12_form_100 : decode cX12_form 100 = .ok (.aload_n 0, 1) := by decide +kernel
theorem dX12_form_101 : decode cX12_form 101 = .ok (.invokevirtual 323, 3) := by decide +kernel
theorem dX12_form_104 : decode cX12_form 104 = .ok (.goto (-50), 3) := by decide +kernel
theorem dX12_form_107 : decode cX12_form 107 = .ok (.aload_n 0, 1) := by decide +kernel
theorem dX12_form_108 : decode cX12_form 108 = .ok (.getfield 26, 3) := by decide +kernel
theorem dX12_form_111 : decode cX12_form 111 = .ok (.aload_n 0, 1) := by decide +kernel
theorem dX12_form_112 : decode cX12_form 112 = .ok (.getfield 362, 3) := by decide +kernel
theorem dX12_form_115 : decode cX12_form 115 = .ok (.iload_n 3, 1) := by decide +kernel
theorem dX12_form_116 : decode cX12_form 116 = .ok (.iastore, 1) := by decide +kernel
theorem dX12_form_117 : decode cX12_form 117 = .ok (.aload_n 0, 1) := by decide +kernel
theorem dX12_form_118 : decode cX12_form 118 = .ok (.iconst 0, 1) := by decide +kernel
theorem dX12_form_119 : decode cX12_form 119 = .ok (.aload_n 0, 1) := by decide +kernel
theorem dX12_form_120 : decode cX12_form 120 = .ok (.getfield 362, 3) := by decide +kernel
theorem dX12_form_123 : decode cX12_form 123 = .ok (.iload_n 1, 1) := by decide +kernel
theorem dX12_form_124 : decode cX12_form 124 = .ok (.iload_n 2, 1) := by decide +kernel
theorem dX12_form_125 : decode cX12_form 125 = .ok (.invokevirtual 372, 3) := by decide +kernel
theorem dX12_form_128 : decode cX12_form 128 = .ok (.aload_n 0, 1) := by decide +kernel
theorem dX12_form_129 : decode cX12_form 129 = .ok (.dup, 1) := by decide +kernel
theorem dX12_form_130 : decode cX12_form 130 = .ok (.getfield 362, 3) := by decide +kernel
theorem dX12_form_133 : decode cX12_form 133 = .ok (.iconst 1, 1) := by decide +kernel
theorem dX12_form_134 : decode cX12_form 134 = .ok (.iadd, 1) := by decide +kernel
theorem dX12_form_135 : decode cX12_form 135 = .ok (.putfield 362, 3) := by decide +kernel
theorem dX12_form_138 : decode cX12_form 138 = .ok (.iconst 1, 1) := by decide +kernel
theorem dX12_form_139 : decode cX12_form 139 = .ok (.ireturn, 1) := by decide +kernel
abbrev rm_f_X12_form : Room := { frames := 10, cells := 0, slots := 0, locals := 289 }
def f_X12_form_L54 (N : Nat) (K14 : (St → Option (Int × St))) (K15 : (Int → St → Option (Int × St))) : Nat → Int → Int → St → Option (Int × St)
  | 0, _, _, _ => none
  | n9 + 1, x11, x12, t13 =>
    cmpI x12 0 (if x12 = 0 then (K15 x11 t13)
    else (bdI (f_X12_slot N x11 t13) fun v17 t16 =>
    cmpI v17 0 (if v17 = 0 then (boI 0 (some (0, t16)))
    else (bdI (f_X12_isSign N 44 t16) fun v19 t18 =>
    jn1 (fun (t20 : St) => bdV (f_X12_next N t20) fun t22 =>
    f_X12_form_L54 N K14 K15 n9 (x11 + 1) v19 t22) fun J21 =>
    cmpI v19 0 (if v19 = 0 then (bdI (f_X12_isSign N 59 t18) fun v24 t23 =>
    cmpI v24 0 (if v24 = 0 then (K14 t23)
    else (J21 t23)))
    else (J21 t18))))))
def f_X12_form (N : Nat) (t : St) : Option (Int × St) :=
    lt1 (t.1 200 14) fun v1 =>
    cmpI v1 40 (if v1 = 40 then (bdI (f_X12_wrong N 5 t) fun v37 t36 =>
    boI v37 (some (v37, t36)))
    else (bdV (f_X12_next N t) fun t2 =>
    bdI (f_X12_newName N t2) fun v4 t3 =>
    cmpI v4 0 (if v4 = 0 then (boI 0 (some (0, t3)))
    else (lt1 (t3.1 200 111) fun v5 =>
    lt1 (t3.1 200 112) fun v6 =>
    bdI (f_X12_sign N 61 t3) fun v8 t7 =>
    cmpI v8 0 (if v8 = 0 then (boI 0 (some (0, t7)))
    else (f_X12_form_L54 N (fun (t25 : St) => bdI (f_X12_wrong N 1 t25) fun v27 t26 =>
    boI v27 (some (v27, t26))) (fun (k28 : Int) (t29 : St) => lt1 (t29.1 200 14) fun v30 =>
    ixI v30 40 (lt1 (pI t29 18 v30.toNat k28) fun t31 =>
    lt1 (t31.1 200 14) fun v32 =>
    bdV (f_X12_tell N 0 v32 v5 v6 t31) fun t33 =>
    lt1 (t33.1 200 14) fun v34 =>
    lt1 (pI t33 200 14 (v34 + 1)) fun t35 =>
    boI 1 (some (1, t35)))) N 0 1 t7))))))
set_option maxHeartbeats 4000000 in
set_option maxRecDepth 100000 in
theorem t_f_X12_form_L54 {p : Program} {l : Launch} {e : Env} {s : State} {m : MethodId} {args : Array Value} {below : List Frame} {meth : Method} {c : Code} {E : cE} {A : Nat → Prop} {r : Nat → Nat} {mc ms : Nat} {z : Int × St} {N : Nat} {K14 : (St → Option (Int × St))} {K15 : (Int → St → Option (Int × St))} {y9 : Int} {y10 : Int} (X : gX p s m meth c cX12_form 5 (some .boolean) yX12_form args E A) (hK14 : ∀ (t9 : St), K14 t9 = some z → gP p l e rm_f_X12_form s m args below meth c E A 5 (MQ below ((gqI E (gW E r shM) z) A) args s mc ms A) (gW E r shM) 94 [(0, .ref (r 200))] [] t9) (hK15 : ∀ (q3 : Int) (t9 : St), K15 q3 t9 = some z → gP p l e rm_f_X12_form s m args below meth c E A 5 (MQ below ((gqI E (gW E r shM) z) A) args s mc ms A) (gW E r shM) 107 [(0, .ref (r 200)), (1, iv y9), (2, iv y10), (3, iv q3)] [] t9) : ∀ (n9 : Nat) (x11 : Int) (x12 : Int) (t13 : St), f_X12_form_L54 N K14 K15 n9 x11 x12 t13 = some z → gP p l e rm_f_X12_form s m args below meth c E A 5 (MQ below ((gqI E (gW E r shM) z) A) args s mc ms A) (gW E r shM) 54 [(0, .ref (r 200)), (1, iv y9), (2, iv y10), (3, iv x11), (4, iv x12)] [] t13 := by
  intro n9
  induction n9 with
  | zero => intro x11 x12 t13 h; cases h
  | succ n9 ih =>
    intro x11 x12 t13 h
    unfold f_X12_form_L54 at h
    refine g_iload X dX12_form_54 4 rfl ?_
    refine g_if_eq (tgt := 107) X dX12_form_56 (by decide) h (fun h => ?_) (fun h => ?_)
    · exact g_sub (lv' := [(0, .ref (r 200)), (1, iv y9), (2, iv y10), (3, iv x11)]) [0, 1, 2, 3] rfl (hK15 x11 t13 h)
    · refine g_aload_n X dX12_form_59 0 rfl ?_
      refine g_iload_n X dX12_form_60 3 rfl ?_
      refine g_callI (rest := []) X (fun u9 h9 => cp_X12_slot l E r N x11 t13 u9 h9) yy_X12_slot yi_X12_slot wdM_RX12_369 0 12 (gW_at oM) rfl rfl rfl (Nat.le_of_ble_eq_true rfl) dX12_form_61 ⟨by decide, by decide⟩ ⟨rfl, rfl⟩ h (fun v17 t16 h => ?_)
      refine g_if_ne (tgt := 69) X dX12_form_64 (by decide) h (fun h => ?_) (fun h => ?_)
      · refine g_iinc (lv' := [(3, iv (x11 + 1)), (0, .ref (r 200)), (1, iv y9), (2, iv y10), (4, iv x12)]) X dX12_form_69 (k := 3) rfl (by decide) rfl ?_
        refine g_aload_n X dX12_form_72 1 rfl ?_
        refine g_bipush X dX12_form_73 (by decide) ?_
        refine g_callI (rest := []) X (fun u9 h9 => cp_X12_isSign l E r N 44 t16 u9 h9) yy_X12_isSign yi_X12_isSign wdM_RX12_332 0 12 (gW_at oM) rfl rfl rfl (Nat.le_of_ble_eq_true rfl) dX12_form_75 ⟨by decide, by decide⟩ ⟨rfl, rfl⟩ h (fun v19 t18 h => ?_)
        refine g_istore (lv' := [(4, iv v19), (3, iv (x11 + 1)), (0, .ref (r 200)), (1, iv y9), (2, iv y10)]) X dX12_form_78 (by decide) rfl ?_
        refine g_iload X dX12_form_80 0 rfl ?_
        refine g_join (J := fun jj => ∀ (t20 : St), jj  t20 = some z → gP p l e rm_f_X12_form s m args below meth c E A 5 (MQ below ((gqI E (gW E r shM) z) A) args s mc ms A) (gW E r shM) 100 [(0, .ref (r 200)), (1, iv y9), (2, iv y10), (3, iv (x11 + 1)), (4, iv v19)] [] t20) h (fun  t20 h => ?_) (fun J21 hJ21 h => ?_)
        · refine g_aload_n X dX12_form_100 0 rfl ?_
          refine g_callV (rest := []) X (fun u9 h9 => cp_X12_next l E r N t20 u9 h9) yy_X12_next yi_X12_next wdM_RX12_323 0 12 (gW_at oM) rfl rfl rfl (Nat.le_of_ble_eq_true rfl) dX12_form_101 ⟨by decide, by decide⟩ ⟨rfl, rfl⟩ h (fun t22 h => ?_)
          refine g_goto (tgt := 54) X dX12_form_104 (by decide) ?_
          exact g_sub (lv' := [(0, .ref (r 200)), (1, iv y9), (2, iv y10), (3, iv (x11 + 1)), (4, iv v19)]) [0, 1, 2, 3, 4] rfl (ih (x11 + 1) v19 t22 h)
        refine g_if_ne (tgt := 100) X dX12_form_82 (by decide) h (fun h => ?_) (fun h => ?_)
        · exact g_sub (lv' := [(0, .ref (r 200)), (1, iv y9), (2, iv y10), (3, iv (x11 + 1)), (4, iv v19)]) [2, 3, 4, 1, 0] rfl (hJ21 t18 h)
        · refine g_aload_n X dX12_form_85 2 rfl ?_
          refine g_bipush X dX12_form_86 (by decide) ?_
          refine g_callI (rest := []) X (fun u9 h9 => cp_X12_isSign l E r N 59 t18 u9 h9) yy_X12_isSign yi_X12_isSign wdM_RX12_332 0 12 (gW_at oM) rfl rfl rfl (Nat.le_of_ble_eq_true rfl) dX12_form_88 ⟨by decide, by decide⟩ ⟨rfl, rfl⟩ h (fun v24 t23 h => ?_)
          refine g_if_ne (tgt := 100) X dX12_form_91 (by decide) h (fun h => ?_) (fun h => ?_)
          · exact g_sub (lv' := [(0, .ref (r 200)), (1, iv y9), (2, iv y10), (3, iv (x11 + 1)), (4, iv v19)]) [2, 3, 4, 1, 0] rfl (hJ21 t23 h)
          · exact g_sub (lv' := [(0, .ref (r 200))]) [2] rfl (hK14 t23 h)
      · refine g_iconst X dX12_form_67 ?_
        exact g_zret X h dX12_form_68
set_option maxHeartbeats 4000000 in
set_option maxRecDepth 100000 in
theorem b_f_X12_form {p : Program} {l : Launch} {e : Env} {s : State} {m : MethodId} {args : Array Value} {below : List Frame} {meth : Method} {c : Code} {E : cE} {A : Nat → Prop} {r : Nat → Nat} {mc ms : Nat} {z : Int × St} {N : Nat} {t : St} (X : gX p s m meth c cX12_form 5 (some .boolean) yX12_form args E A) (h : f_X12_form N t = some z) : gP p l e rm_f_X12_form s m args below meth c E A 5 (MQ below ((gqI E (gW E r shM) z) A) args s mc ms A) (gW E r shM) 0 [(0, .ref (r 200))] [] t := by
  unfold f_X12_form at h
  refine g_aload_n X dX12_form_0 0 rfl ?_
  refine g_getI X fM_14 rfl dX12_form_1 h (fun v1 h => ?_)
  refine g_bipush X dX12_form_4 (by decide) ?_
  refine g_icmp_ne (tgt := 15) X dX12_form_6 (by decide) h (fun h => ?_) (fun h => ?_)
  · refine g_aload_n X dX12_form_15 0 rfl ?_
    refine g_callV (rest := []) X (fun u9 h9 => cp_X12_next l E r N t u9 h9) yy_X12_next yi_X12_next wdM_RX12_323 0 12 (gW_at oM) rfl rfl rfl (Nat.le_of_ble_eq_true rfl) dX12_form_16 ⟨by decide, by decide⟩ ⟨rfl, rfl⟩ h (fun t2 h => ?_)
    refine g_aload_n X dX12_form_19 0 rfl ?_
    refine g_callI (rest := []) X (fun u9 h9 => cp_X12_newName l E r N t2 u9 h9) yy_X12_newName yi_X12_newName wdM_RX12_365 0 12 (gW_at oM) rfl rfl rfl (Nat.le_of_ble_eq_true rfl) dX12_form_20 ⟨by decide, by decide⟩ ⟨rfl, rfl⟩ h (fun v4 t3 h => ?_)
    refine g_if_ne (tgt := 28) X dX12_form_23 (by decide) h (fun h => ?_) (fun h => ?_)
    · refine g_aload_n X dX12_form_28 0 rfl ?_
      refine g_getI X fM_111 rfl dX12_form_29 h (fun v5 h => ?_)
      refine g_istore_n (lv' := [(1, iv v5), (0, .ref (r 200))]) X dX12_form_32 rfl (by decide) rfl ?_
      refine g_aload_n X dX12_form_33 1 rfl ?_
      refine g_getI X fM_112 rfl dX12_form_34 h (fun v6 h => ?_)
      refine g_istore_n (lv' := [(2, iv v6), (1, iv v5), (0, .ref (r 200))]) X dX12_form_37 rfl (by decide) rfl ?_
      refine g_aload_n X dX12_form_38 2 rfl ?_
      refine g_bipush X dX12_form_39 (by decide) ?_
      refine g_callI (rest := []) X (fun u9 h9 => cp_X12_sign l E r N 61 t3 u9 h9) yy_X12_sign yi_X12_sign wdM_RX12_344 0 12 (gW_at oM) rfl rfl rfl (Nat.le_of_ble_eq_true rfl) dX12_form_41 ⟨by decide, by decide⟩ ⟨rfl, rfl⟩ h (fun v8 t7 h => ?_)
      refine g_if_ne (tgt := 49) X dX12_form_44 (by decide) h (fun h => ?_) (fun h => ?_)
      · refine g_iconst X dX12_form_49 ?_
        refine g_istore_n (lv' := [(3, iv 0), (2, iv v6), (1, iv v5), (0, .ref (r 200))]) X dX12_form_50 rfl (by decide) rfl ?_
        refine g_iconst X dX12_form_51 ?_
        refine g_istore (lv' := [(4, iv 1), (3, iv 0), (2, iv v6), (1, iv v5), (0, .ref (r 200))]) X dX12_form_52 (by decide) rfl ?_
        refine g_sub (lv' := [(0, .ref (r 200)), (1, iv v5), (2, iv v6), (3, iv 0), (4, iv 1)]) [4, 3, 2, 1, 0] rfl (t_f_X12_form_L54 X (fun t25 h => ?_) (fun k28 t29 h => ?_) N 0 1 t7 h)
        · refine g_aload_n X dX12_form_94 0 rfl ?_
          refine g_iconst X dX12_form_95 ?_
          refine g_callI (rest := []) X (fun u9 h9 => cp_X12_wrong l E r N 1 t25 u9 h9) yy_X12_wrong yi_X12_wrong wdM_RX12_317 0 12 (gW_at oM) rfl rfl rfl (Nat.le_of_ble_eq_true rfl) dX12_form_96 ⟨by decide, by decide⟩ ⟨rfl, rfl⟩ h (fun v27 t26 h => ?_)
          exact g_zret X h dX12_form_99
        · refine g_aload_n X dX12_form_107 0 rfl ?_
          refine g_getR X fM_18 rfl dX12_form_108 ?_
          refine g_aload_n X dX12_form_111 0 rfl ?_
          refine g_getI X fM_14 rfl dX12_form_112 h (fun v30 h => ?_)
          refine g_iload_n X dX12_form_115 3 rfl ?_
          refine g_iast X aM_18 dX12_form_116 h (fun t31 h => ?_)
          refine g_aload_n X dX12_form_117 0 rfl ?_
          refine g_iconst X dX12_form_118 ?_
          refine g_aload_n X dX12_form_119 0 rfl ?_
          refine g_getI X fM_14 rfl dX12_form_120 h (fun v32 h => ?_)
          refine g_iload_n X dX12_form_123 1 rfl ?_
          refine g_iload_n X dX12_form_124 2 rfl ?_
          refine g_callV (rest := []) X (fun u9 h9 => cp_X12_tell l E r N 0 v32 v5 v6 t31 u9 h9) yy_X12_tell yi_X12_tell wdM_RX12_372 0 12 (gW_at oM) rfl rfl rfl (Nat.le_of_ble_eq_true rfl) dX12_form_125 ⟨by decide, by decide⟩ ⟨rfl, rfl⟩ h (fun t33 h => ?_)
          refine g_aload_n X dX12_form_128 0 rfl ?_
          refine g_dup X rfl dX12_form_129 ?_
          refine g_getI X fM_14 rfl dX12_form_130 h (fun v34 h => ?_)
          refine g_iconst X dX12_form_133 ?_
          refine g_iadd X dX12_form_134 ?_
          refine g_putI X fM_14w rfl dX12_form_135 h (fun t35 h => ?_)
          refine g_iconst X dX12_form_138 ?_
          exact g_zret X h dX12_form_139
      · refine g_iconst X dX12_form_47 ?_
        exact g_zret X h dX12_form_48
    · refine g_iconst X dX12_form_26 ?_
      exact g_zret X h dX12_form_27
  · refine g_aload_n X dX12_form_9 0 rfl ?_
    refine g_iconst X dX12_form_10 ?_
    refine g_callI (rest := []) X (fun u9 h9 => cp_X12_wrong l E r N 5 t u9 h9) yy_X12_wrong yi_X12_wrong wdM_RX12_317 0 12 (gW_at oM) rfl rfl rfl (Nat.le_of_ble_eq_true rfl) dX12_form_11 ⟨by decide, by decide⟩ ⟨rfl, rfl⟩ h (fun v37 t36 h => ?_)
    exact g_zret X h dX12_form_14
set_option maxHeartbeats 4000000 in
set_option maxRecDepth 100000 in
theorem cp_X12_form (l : Launch) (E : cE) (r : Nat → Nat) (N : Nat) (t : St) (z : Int × St) (h : f_X12_form N t = some z) : cM l E yX12_form cX12_form 5 (some .boolean) rm_f_X12_form [.ref (r 200)] (gW E r shM t) (gqI E (gW E r shM) z) := by
  refine g_of (w := gW E r shM) (by decide) (Nat.le_of_ble_eq_true rfl) ?_
  intro p e s m below meth c A X
  exact g_sub (lv' := [(0, .ref (r 200))]) [0] rfl (b_f_X12_form X h)
theorem yy_X12_form : cY yX12_form cX12_form 5 (some .boolean) 0 := ⟨wdK_X12_form, wdZ_RX12, by decide +kernel⟩
theorem yi_X12_form : cYi yX12_form := ⟨wdN_X12_form, wdS_X12_form⟩
theorem dX12_figure_0 : decode cX12_figure 0 = .ok (.aload_n 0, 1) := by decide +kernel
theorem dX12_figure_1 : decode cX12_figure 1 = .ok (.getfield 375, 3) := by decide +kernel
theorem dX12_figure_4 : decode cX12_figure 4 = .ok (.bipush 100, 2) := by decide +kernel
theorem dX12_figure_6 : decode cX12_figure 6 = .ok (.if_icmp .ne 9, 3) := by decide +kernel
theorem dX12_figure_9 : decode cX12_figure 9 = .ok (.aload_n 0, 1) := by decide +kernel
theorem dX12_figure_10 : decode cX12_figure 10 = .ok (.iconst 5, 1) := by decide +kernel
theorem dX12_figure_11 : decode cX12_figure 11 = .ok (.invokevirtual 317, 3) := by decide +kernel
theorem dX12_figure_14 : decode cX12_figure 14 = .ok (.ireturn, 1) := by decide +kernel
theorem dX12_figure_15 : decode cX12_figure 15 = .ok (.aload_n 0, 1) := by decide +kernel
theorem dX12_figure_16 : decode cX12_figure 16 = .ok (.invokevirtual 323, 3) := by decide +kernel
theorem dX12_figure_19 : decode cX12_figure 19 = .ok (.aload_n 0, 1) := by decide +kernel
theorem dX12_figure_20 : decode cX12_figure 20 = .ok (.invokevirtual 365, 3) := by decide +kernel
theorem dX12_figure_23 : decode cX12_figure 23 = .ok (.ifCond .ne 5, 3) := by decide +kernel
theorem dX12_figure_26 : decode cX12_figure 26 = .ok (.iconst 0, 1) := by decide +kernel
theorem dX12_figure_27 : decode cX12_figure 27 = .ok (.ireturn, 1) := by decide +kernel
theorem dX12_figure_28 : decode cX12_figure 28 = .ok (.aload_n 0, 1) := by decide +kernel
theorem dX12_figure_29 : decode cX12_figure 29 = .ok (.getfield 353, 3) := by decide +kernel
theorem dX12_figure_32 : decode cX12_figure 32 = .ok (.istore_n 1, 1) := by decide +kernel
theorem dX12_figure_33 : decode cX12_figure 33 = .ok (.aload_n 0, 1) := by decide +kernel
theorem dX12_figure_34 : decode cX12_figure 34 = .ok (.getfield 356, 3) := by decide +kernel
theorem dX12_figure_37 : decode cX12_figure 37 = .ok (.istore_n 2, 1) := by decide +kernel
theorem dX12_figure_38 : decode cX12_figure 38 = .ok (.aload_n 0, 1) := by decide +kernel
theorem dX12_figure_39 : decode cX12_figure 39 = .ok (.iconst 4, 1) := by decide +kernel
theorem dX12_figure_40 : decode cX12_figure 40 = .ok (.invokevirtual 378, 3) := by decide +kernel
theorem dX12_figure_43 : decode cX12_figure 43 = .ok (.ifCond .eq 11, 3) := by decide +kernel
theorem dX12_figure_46 : decode cX12_figure 46 = .ok (.aload_n 0, 1) := by decide +kernel
theorem dX12_figure_47 : decode cX12_figure 47 = .ok (.iconst 0, 1) := by decide +kernel
theorem dX12_figure_48 : decode cX12_figure 48 = .ok (.invokevirtual 381, 3) := by decide +kernel
theorem dX12_figure_51 : decode cX12_figure 51 = .ok (.ifCond .ne 5, 3) := by decide +kernel
theorem dX12_figure_54 : decode cX12_figure 54 = .ok (.iconst 0, 1) := by decide +kernel
theorem dX12_figure_55 : decode cX12_figure 55 = .ok (.ireturn, 1) := by decide +kernel
theorem dX12_figure_56 : decode cX12_figure 56 = .ok (.aload_n 0, 1) := by decide +kernel
theorem dX12_figure_57 : decode cX12_figure 57 = .ok (.getfield 41, 3) := by decide +kernel
theorem dX12_figure_60 : decode cX12_figure 60 = .ok (.aload_n 0, 1) := by decide +kernel
theorem dX12_figure_61 : decode cX12_figure 61 = .ok (.getfield 375, 3) := by decide +kernel
theorem dX12_figure_64 : decode cX12_figure 64 = .ok (.aload_n 0, 1) := by decide +kernel
theorem dX12_figure_65 : decode cX12_figure 65 = .ok (.getfield 359, 3) := by decide +kernel
theorem dX12_figure_68 : decode cX12_figure 68 = .ok (.iastore, 1) := by decide +kernel
theorem dX12_figure_69 : decode cX12_figure 69 = .ok (.aload_n 0, 1) := by decide +kernel
theorem dX12_figure_70 : decode cX12_figure 70 = .ok (.iconst 5, 1) := by decide +kernel
theorem dX12_figure_71 : decode cX12_figure 71 = .ok (.invokevirtual 378, 3) := by decide +kernel
theorem dX12_figure_74 : decode cX12_figure 74 = .ok (.ifCond .eq 13, 3) := by decide +kernel
theorem dX12_figure_77 : decode cX12_figure 77 = .ok (.aload_n 0, 1) := by decide +kernel
theorem dX12_figure_78 : decode cX12_figure 78 = .ok (.iconst 0, 1) := by decide +kernel
theorem dX12_figure_79 : decode cX12_figure 79 = .ok (.bipush 64, 2) := by decide +kernel
theorem dX12_figure_81 : decode cX12_figure 81 = .ok (.invokevirtual 384, 3) := by decide +kernel
theorem dX12_figure_84 : decode cX12_figure 84 = .ok (.ifCond .ne 5, 3) := by decide +kernel
theorem dX12_figure_87 : decode cX12_figure 87 = .ok (.iconst 0, 1) := by decide +kernel
theorem dX12_figure_88 : decode cX12_figure 88 = .ok (.ireturn, 1) := by decide +kernel
theorem dX12_figure_89 : decode cX12_figure 89 = .ok (.aload_n 0, 1) := by decide +kernel
theorem dX12_figure_90 : decode cX12_figure 90 = .ok (.getfield 44, 3) := by decide +kernel
theorem dX12_figure_93 : decode cX12_figure 93 = .ok (.aload_n 0, 1) := by decide +kernel
theorem dX12_figure_94 : decode cX12_figure 94 = .ok (.getfield 375, 3) := by decide +kernel
theorem dX12_figure_97 : decode cX12_figure 97 = .ok (.aload_n 0, 1) := by decide +kernel
theorem dX12_figure_98 : decode cX12_figure 98 = .ok (.getfield 335, 3) := by decide +kernel
theorem dX12_figure_101 : decode cX12_figure 101 = .ok (.iastore, 1) := by decide +kernel
theorem dX12_figure_102 : decode cX12_figure 102 = .ok (.aload_n 0, 1) := by decide +kernel
theorem dX12_figure_103 : decode cX12_figure 103 = .ok (.bipush 6, 2) := by decide +kernel
theorem dX12_figure_105 : decode cX12_figure 105 = .ok (.invokevirtual 378, 3) := by decide +kernel
theorem dX12_figure_108 : decode cX12_figure 108 = .ok (.ifCond .eq 14, 3) := by decide +kernel
theorem dX12_figure_111 : decode cX12_figure 111 = .ok (.aload_n 0, 1) := by decide +kernel
theorem dX12_figure_112 : decode cX12_figure 112 = .ok (.iconst 0, 1) := by decide +kernel
theorem dX12_figure_113 : decode cX12_figure 113 = .ok (.sipush 1000, 3) := by decide +kernel
theorem dX12_figure_116 : decode cX12_figure 116 = .ok (.invokevirtual 384, 3) := by decide +kernel
theorem dX12_figure_119 : decode cX12_figure 119 = .ok (.ifCond .ne 5, 3) := by decide +kernel
theorem dX12_figure_122 : decode cX12_figure 122 = .ok (.iconst 0, 1) := by decide +kernel
theorem dX12_figure_123 : decode cX12_figure 123 = .ok (.ireturn, 1) := by decide +kernel
theorem dX12_figure_124 : decode cX12_figure 124 = .ok (.aload_n 0, 1) := by decide +kernel
theorem dX12_figure_125 : decode cX12_figure 125 = .ok (.getfield 47, 3) := by decide +kernel
theorem dX12_figure_128 : decode cX12_figure 128 = .ok (.aload_n 0, 1) := by decide +kernel
theorem dX12_figure_129 : decode cX12_figure 129 = .ok (.getfield 375, 3) := by decide +kernel
theorem dX12_figure_132 : decode cX12_figure 132 = .ok (.aload_n 0, 1) := by decide +kernel
theorem dX12_figure_133 : decode cX12_figure 133 = .ok (.getfield 335, 3) := by decide +kernel
theorem dX12_figure_136 : decode cX12_figure 136 = .ok (.iastore, 1) := by decide +kernel
theorem dX12_figure_137 : decode cX12_figure 137 = .ok (.aload_n 0, 1) := by decide +kernel
theorem dX12_figure_138 : decode cX12_figure 138 = .ok (.bipush 61, 2) := by decide +kernel
theorem dX12_figure_140 : decode cX12_figure 140 = .ok (.invokevirtual 344, 3) := by decide +kernel
theorem dX12_figure_143 : decode cX12_figure 143 = .ok (.ifCond .ne 5, 3) := by decide +kernel
theorem dX12_figure_146 : decode cX12_figure 146 = .ok (.iconst 0, 1) := by decide +kernel
theorem dX12_figure_147 : decode cX12_figure 147 = .ok (.ireturn, 1) := by decide +kernel
theorem dX12_figure_148 : decode cX12_figure 148 = .ok (.aload_n 0, 1) := by decide +kernel
theorem dX12_figure_149 : decode cX12_figure 149 = .ok (.getfield 26, 3) := by decide +kernel
theorem dX12_figure_152 : decode cX12_figure 152 = .ok (.aload_n 0, 1) := by decide +kernel
theorem dX12_figure_153 : decode cX12_figure 153 = .ok (.getfield 41, 3) := by decide +kernel
theorem dX12_figure_156 : decode cX12_figure 156 = .ok (.aload_n 0, 1) := by decide +kernel
theorem dX12_figure_157 : decode cX12_figure 157 = .ok (.getfield 375, 3) := by decide +kernel
theorem dX12_figure_160 : decode cX12_figure 160 = .ok (.iaload, 1) := by decide +kernel
theorem dX12_figure_161 : decode cX12_figure 161 = .ok (.iaload, 1) := by decide +kernel
theorem dX12_figure_162 : decode cX12_figure 162 = .ok (.istore_n 3, 1) := by decide +kernel
theorem dX12_figure_163 : decode cX12_figure 163 = .ok (.iconst 0, 1) := by decide +kernel
theorem dX12_figure_164 : decode cX12_figure 164 = .ok (.istore 4, 2) := by decide +kernel
theorem dX12_figure_166 : decode cX12_figure 166 = .ok (.iconst 1, 1) := by decide +kernel
theorem dX12_figure_167 : decode cX12_figure 167 = .ok (.istore 5, 2) := by decide +kernel
theorem dX12_figure_169 : decode cX12_figure 169 = .ok (.iload 5, 2) := by decide +kernel
theorem dX12_figure_171 : decode cX12_figure 171 = .ok (.ifCond .eq 161, 3) := by decide +kernel
theorem dX12_figure_174 : decode cX12_figure 174 = .ok (.bipush 8, 2) := by decide +kernel
theorem dX12_figure_176 : decode cX12_figure 176 = .ok (.aload_n 0, 1) := by decide +kernel
theorem dX12_figure_177 : decode cX12_figure 177 = .ok (.getfield 375, 3) := by decide +kernel
theorem dX12_figure_180 : decode cX12_figure 180 = .ok (.imul, 1) := by decide +kernel
theorem dX12_figure_181 : decode cX12_figure 181 = .ok (.iload 4, 2) := by decide +kernel
theorem dX12_figure_183 : decode cX12_figure 183 = .ok (.iadd, 1) := by decide +kernel
theorem dX12_figure_184 : decode cX12_figure 184 = .ok (.istore 6, 2) := by decide +kernel
theorem dX12_figure_186 : decode cX12_figure 186 = .ok (.aload_n 0, 1) := by decide +kernel
theorem dX12_figure_187 : decode cX12_figure 187 = .ok (.bipush (-32), 2) := by decide +kernel
theorem dX12_figure_189 : decode cX12_figure 189 = .ok (.bipush 32, 2) := by decide +kernel
theorem dX12_figure_191 : decode cX12_figure 191 = .ok (.invokevirtual 384, 3) := by decide +kernel
theorem dX12_figure_194 : decode cX12_figure 194 = .ok (.ifCond .ne 5, 3) := by decide +kernel
theorem dX12_figure_197 : decode cX12_figure 197 = .ok (.iconst 0, 1) := by decide +kernel
theorem dX12_figure_198 : decode cX12_figure 198 = .ok (.ireturn, 1) := by decide +kernel
theorem dX12_figure_199 : decode cX12_figure 199 = .ok (.aload_n 0, 1) := by decide +kernel
theorem dX12_figure_200 : decode cX12_figure 200 = .ok (.getfield 50, 3) := by decide +kernel
theorem dX12_figure_203 : decode cX12_figure 203 = .ok (.iload 6, 2) := by decide +kernel
theorem dX12_figure_205 : decode cX12_figure 205 = .ok (.aload_n 0, 1) := by decide +kernel
theorem dX12_figure_206 : decode cX12_figure 206 = .ok (.getfield 335, 3) := by decide +kernel
theorem dX12_figure_209 : decode cX12_figure 209 = .ok (.iastore, 1) := by decide +kernel
theorem dX12_figure_210 : decode cX12_figure 210 = .ok (.aload_n 0, 1) := by decide +kernel
theorem dX12_figure_211 : decode cX12_figure 211 = .ok (.bipush (-32), 2) := by decide +kernel
theorem dX12_figure_213 : decode cX12_figure 213 = .ok (.bipush 32, 2) := by decide +kernel
theorem dX12_figure_215 : decode cX12_figure 215 = .ok (.invokevirtual 384, 3) := by decide +kernel
theorem dX12_figure_218 : decode cX12_figure 218 = .ok (.ifCond .ne 5, 3) := by decide +kernel
theorem dX12_figure_221 : decode cX12_figure 221 = .ok (.iconst 0, 1) := by decide +kernel
theorem dX12_figure_222 : decode cX12_figure 222 = .ok (.ireturn, 1) := by decide +kernel
theorem dX12_figure_223 : decode cX12_figure 223 = .ok (.aload_n 0, 1) := by decide +kernel
theorem dX12_figure_224 : decode cX12_figure 224 = .ok (.getfield 53, 3) := by decide +kernel
theorem dX12_figure_227 : decode cX12_figure 227 = .ok (.iload 6, 2) := by decide +kernel
theorem dX12_figure_229 : decode cX12_figure 229 = .ok (.aload_n 0, 1) := by decide +kernel
theorem dX12_figure_230 : decode cX12_figure 230 = .ok (.getfield 335, 3) := by decide +kernel
theorem dX12_figure_233 : decode cX12_figure 233 = .ok (.iastore, 1) := by decide +kernel
theorem dX12_figure_234 : decode cX12_figure 234 = .ok (.aload_n 0, 1) := by decide +kernel
theorem dX12_figure_235 : decode cX12_figure 235 = .ok (.bipush (-8), 2) := by decide +kernel
theorem dX12_figure_237 : decode cX12_figure 237 = .ok (.bipush 8, 2) := by decide +kernel
theorem dX12_figure_239 : decode cX12_figure 239 = .ok (.invokevirtual 384, 3) := by decide +kernel
theorem dX12_figure_242 : decode cX12_figure 242 = .ok (.ifCond .ne 5, 3) := by decide +kernel
theorem dX12_figure_245 : decode cX12_figure 245 = .ok (.iconst 0, 1) := by decide +kernel
theorem dX12_figure_246 : decode cX12_figure 246 = .ok (.ireturn, 1) := by decide +kernel
theorem dX12_figure_247 : decode cX12_figure 247 = .ok (.aload_n 0, 1) := by decide +kernel
theorem dX12_figure_248 : decode cX12_figure 248 = .ok (.getfield 56, 3) := by decide +kernel
theorem dX12_figure_251 : decode cX12_figure 251 = .ok (.iload 6, 2) := by decide +kernel
theorem dX12_figure_253 : decode cX12_figure 253 = .ok (.aload_n 0, 1) := by decide +kernel
theorem dX12_figure_254 : decode cX12_figure 254 = .ok (.getfield 335, 3) := by decide +kernel
theorem dX12_figure_257 : decode cX12_figure 257 = .ok (.iastore, 1) := by decide +kernel
theorem dX12_figure_258 : decode cX12_figure 258 = .ok (.iinc 4 1, 3) := by decide +kernel
theorem dX12_figure_261 : decode cX12_figure 261 = .ok (.aload_n 0, 1) := by decide +kernel
theorem dX12_figure_262 : decode cX12_figure 262 = .ok (.bipush 44, 2) := by decide +kernel
theorem dX12_figure_264 : decode cX12_figure 264 = .ok (.invokevirtual 332, 3) := by decide +kernel
theorem dX12_figure_267 : decode cX12_figure 267 = .ok (.istore 5, 2) := by decide +kernel
theorem dX12_figure_269 : decode cX12_figure 269 = .ok (.iload 5, 2) := by decide +kernel
theorem dX12_figure_271 : decode cX12_figure 271 = .ok (.ifCond .eq 16, 3) := by decide +kernel
theorem dX12_figure_274 : decode cX12_figure 274 = .ok (.iload 4, 2) := by decide +kernel
theorem dX12_figure_276 : decode cX12_figure 276 = .ok (.iload_n 3, 1) := by decide +kernel
theorem dX12_figure_277 : decode cX12_figure 277 = .ok (.if_icmp .ne 10, 3) := by decide +kernel
theorem dX12_figure_280 : decode cX12_figure 280 = .ok (.aload_n 0, 1) := by decide +kernel
theorem dX12_figure_281 : decode cX12_figure 281 = .ok (.bipush 6, 2) := by decide +kernel
theorem dX12_figure_283 : decode cX12_figure 283 = .ok (.invokevirtual 317, 3) := by decide +kernel
theorem dX12_figure_286 : decode cX12_figure 286 = .ok (.ireturn, 1) := by decide +kernel
theorem dX12_figure_287 : decode cX12_figure 287 = .ok (.iload 5, 2) := by decide +kernel
theorem dX12_figure_289 : decode cX12_figure 289 = .ok (.ifCond .ne 18, 3) := by decide +kernel
theorem dX12_figure_292 : decode cX12_figure 292 = .ok (.aload_n 0, 1) := by decide +kernel
theorem dX12_figure_293 : decode cX12_figure 293 = .ok (.bipush 59, 2) := by decide +kernel
theorem dX12_figure_295 : decode cX12_figure 295 = .ok (.invokevirtual 332, 3) := by decide +kernel
theorem dX12_figure_298 : decode cX12_figure 298 = .ok (.ifCond .ne 9, 3) := by decide +kernel
theorem dX12_figure_301 : decode cX12_figure 301 = .ok (.aload_n 0, 1) := by decide +kernel
theorem dX12_figure_302 : decode cX12_figure 302 = .ok (.iconst 1, 1) := by decide +kernel
theorem dX12_figure_303 : decode cX12_figure 303 = .ok (.invokevirtual 317, 3) := by decide +kernel
theorem dX12_figure_306 : decode cX12_figure 306 = .ok (.ireturn, 1) := by decide +kernel
theorem dX12_figure_307 : decode cX12_figure 307 = .ok (.iload 5, 2) := by decide +kernel
theorem dX12_figure_309 : decode cX12_figure 309 = .ok (.ifCond .ne 16, 3) := by decide +kernel
theorem dX12_figure_312 : decode cX12_figure 312 = .ok (.iload 4, 2) := by decide +kernel
theorem dX12_figure_314 : decode cX12_figure 314 = .ok (.iload_n 3, 1) := by decide +kernel
theorem dX12_figure_315 : decode cX12_figure 315 = .ok (.if_icmp .ge 10, 3) := by decide +kernel
theorem dX12_figure_318 : decode cX12_figure 318 = .ok (.aload_n 0, 1) := by decide +kernel
theorem dX12_figure_319 : decode cX12_figure 319 = .ok (.bipush 6, 2) := by decide +kernel
theorem dX12_figure_321 : decode cX12_figure 321 = .ok (.invokevirtual 317, 3) := by decide +kernel
theorem dX12_figure_324 : decode cX12_figure 324 = .ok (.ireturn, 1) := by decide +kernel
theorem dX12_figure_325 : decode cX12_figure 325 = .ok (.aload_n 0, 1) := by decide +kernel
theorem dX12_figure_326 : decode cX12_figure 326 = .ok (.invokevirtual 323, 3) := by decide +kernel
theorem dX12_figure_329 : decode cX12_figure 329 = .ok (.goto (-160), 3) := by decide +kernel
theorem dX12_figure_332 : decode cX12_figure 332 = .ok (.aload_n 0, 1) := by decide +kernel
theorem dX12_figure_333 : decode cX12_figure 333 = .ok (.iconst 1, 1) := by decide +kernel
theorem dX12_figure_334 : decode cX12_figure 334 = .ok (.aload_n 0, 1) := by decide +kernel
theorem dX12_figure_335 : decode cX12_figure 335 = .ok (.getfield 375, 3) := by decide +kernel
theorem dX12_figure_338 : decode cX12_figure 338 = .ok (.iload_n 1, 1) := by decide +kernel
theorem dX12_figure_339 : decode cX12_figure 339 = .ok (.iload_n 2, 1) := by decide +kernel
theorem dX12_figure_340 : decode cX12_figure 340 = .ok (.invokevirtual 372, 3) := by decide +kernel
theorem dX12_figure_343 : decode cX12_figure 343 = .ok (.aload_n 0, 1) := by decide +kernel
theorem dX12_figure_344 : decode cX12_figure 344 = .ok (.dup, 1) := by decide +kernel
theorem dX12_figure_345 : decode cX12_figure 345 = .ok (.getfield 375, 3) := by decide +kernel
theorem dX12_figure_348 : decode cX12_figure 348 = .ok (.iconst 1, 1) := by decide +kernel
theorem dX12_figure_349 : decode cX12_figure 349 = .ok (.iadd, 1) := by decide +kernel
theorem dX12_figure_350 : decode cX12_figure 350 = .ok (.putfield 375, 3) := by decide +kernel
theorem dX12_figure_353 : decode cX12_figure 353 = .ok (.iconst 1, 1) := by decide +kernel
theorem dX12_figure_354 : decode cX12_figure 354 = .ok (.ireturn, 1) := by decide +kernel
abbrev rm_f_X12_figure : Room := { frames := 10, cells := 0, slots := 0, locals := 290 }
def f_X12_figure_L169 (N : Nat) (K39 : (St → Option (Int × St))) (K40 : (St → Option (Int × St))) (K41 : (St → Option (Int × St))) (K42 : (St → Option (Int × St))) (y35 : Int) : Nat → Int → Int → St → Option (Int × St)
  | 0, _, _, _ => none
  | n9 + 1, x36, x37, t38 =>
    cmpI x37 0 (if x37 = 0 then (K42 t38)
    else (lt1 (t38.1 200 15) fun v43 =>
    bdI (f_X12_number N (-32) 32 t38) fun v45 t44 =>
    cmpI v45 0 (if v45 = 0 then (boI 0 (some (0, t44)))
    else (lt1 (t44.1 200 110) fun v46 =>
    ixI ((8 * v43) + x36) 800 (lt1 (pI t44 26 ((8 * v43) + x36).toNat v46) fun t47 =>
    bdI (f_X12_number N (-32) 32 t47) fun v49 t48 =>
    cmpI v49 0 (if v49 = 0 then (boI 0 (some (0, t48)))
    else (lt1 (t48.1 200 110) fun v50 =>
    ixI ((8 * v43) + x36) 800 (lt1 (pI t48 27 ((8 * v43) + x36).toNat v50) fun t51 =>
    bdI (f_X12_number N (-8) 8 t51) fun v53 t52 =>
    cmpI v53 0 (if v53 = 0 then (boI 0 (some (0, t52)))
    else (lt1 (t52.1 200 110) fun v54 =>
    ixI ((8 * v43) + x36) 800 (lt1 (pI t52 28 ((8 * v43) + x36).toNat v54) fun t55 =>
    bdI (f_X12_isSign N 44 t55) fun v57 t56 =>
    jn1 (fun (t58 : St) => jn1 (fun (t60 : St) => jn1 (fun (t62 : St) => bdV (f_X12_next N t62) fun t64 =>
    f_X12_figure_L169 N K39 K40 K41 K42 y35 n9 (x36 + 1) v57 t64) fun J63 =>
    cmpI v57 0 (if v57 = 0 then (cmpI (x36 + 1) y35 (if (x36 + 1) < y35 then (K41 t60)
    else (J63 t60)))
    else (J63 t60))) fun J61 =>
    cmpI v57 0 (if v57 = 0 then (bdI (f_X12_isSign N 59 t58) fun v66 t65 =>
    cmpI v66 0 (if v66 = 0 then (K40 t65)
    else (J61 t65)))
    else (J61 t58))) fun J59 =>
    cmpI v57 0 (if v57 = 0 then (J59 t56)
    else (cmpI (x36 + 1) y35 (if (x36 + 1) = y35 then (K39 t56)
    else (J59 t56)))))))))))))))
def f_X12_figure (N : Nat) (t : St) : Option (Int × St) :=
    lt1 (t.1 200 15) fun v1 =>
    cmpI v1 100 (if v1 = 100 then (bdI (f_X12_wrong N 5 t) fun v82 t81 =>
    boI v82 (some (v82, t81)))
    else (bdV (f_X12_next N t) fun t2 =>
    bdI (f_X12_newName N t2) fun v4 t3 =>
    cmpI v4 0 (if v4 = 0 then (boI 0 (some (0, t3)))
    else (lt1 (t3.1 200 111) fun v5 =>
    lt1 (t3.1 200 112) fun v6 =>
    bdI (f_X12_key N 4 t3) fun v8 t7 =>
    cmpI v8 0 (if v8 = 0 then (boI 0 (some (0, t7)))
    else (bdI (f_X12_knownName N 0 t7) fun v10 t9 =>
    cmpI v10 0 (if v10 = 0 then (boI 0 (some (0, t9)))
    else (lt1 (t9.1 200 15) fun v11 =>
    lt1 (t9.1 200 113) fun v12 =>
    ixI v11 100 (lt1 (pI t9 23 v11.toNat v12) fun t13 =>
    bdI (f_X12_key N 5 t13) fun v15 t14 =>
    cmpI v15 0 (if v15 = 0 then (boI 0 (some (0, t14)))
    else (bdI (f_X12_number N 0 64 t14) fun v17 t16 =>
    cmpI v17 0 (if v17 = 0 then (boI 0 (some (0, t16)))
    else (lt1 (t16.1 200 15) fun v18 =>
    lt1 (t16.1 200 110) fun v19 =>
    ixI v18 100 (lt1 (pI t16 24 v18.toNat v19) fun t20 =>
    bdI (f_X12_key N 6 t20) fun v22 t21 =>
    cmpI v22 0 (if v22 = 0 then (boI 0 (some (0, t21)))
    else (bdI (f_X12_number N 0 1000 t21) fun v24 t23 =>
    cmpI v24 0 (if v24 = 0 then (boI 0 (some (0, t23)))
    else (lt1 (t23.1 200 15) fun v25 =>
    lt1 (t23.1 200 110) fun v26 =>
    ixI v25 100 (lt1 (pI t23 25 v25.toNat v26) fun t27 =>
    bdI (f_X12_sign N 61 t27) fun v29 t28 =>
    cmpI v29 0 (if v29 = 0 then (boI 0 (some (0, t28)))
    else (lt1 (t28.1 200 15) fun v30 =>
    ixI v30 100 (lt1 (t28.1 23 v30.toNat) fun v31 =>
    ixI v31 40 (lt1 (t28.1 18 v31.toNat) fun v32 =>
    f_X12_figure_L169 N (fun (t67 : St) => bdI (f_X12_wrong N 6 t67) fun v69 t68 =>
    boI v69 (some (v69, t68))) (fun (t70 : St) => bdI (f_X12_wrong N 1 t70) fun v72 t71 =>
    boI v72 (some (v72, t71))) (fun (t73 : St) => bdI (f_X12_wrong N 6 t73) fun v75 t74 =>
    boI v75 (some (v75, t74))) (fun (t76 : St) => lt1 (t76.1 200 15) fun v77 =>
    bdV (f_X12_tell N 1 v77 v5 v6 t76) fun t78 =>
    lt1 (t78.1 200 15) fun v79 =>
    lt1 (pI t78 200 15 (v79 + 1)) fun t80 =>
    boI 1 (some (1, t80))) v32 N 0 1 t28)))))))))))))))))))))))
set_option maxHeartbeats 4000000 in
set_option maxRecDepth 100000 in
theorem t_f_X12_figure_L169 {p : Program} {l : Launch} {e : Env} {s : State} {m : MethodId} {args : Array Value} {below : List Frame} {meth : Method} {c : Code} {E : cE} {A : Nat → Prop} {r : Nat → Nat} {mc ms : Nat} {z : Int × St} {N : Nat} {K39 : (St → Option (Int × St))} {K40 : (St → Option (Int × St))} {K41 : (St → Option (Int × St))} {K42 : (St → Option (Int × St))} {y33 : Int} {y34 : Int} {y35 : Int} (X : gX p s m meth c cX12_figure 7 (some .boolean) yX12_figure args E A) (hK39 : ∀ (t9 : St), K39 t9 = some z → gP p l e rm_f_X12_figure s m args below meth c E A 7 (MQ below ((gqI E (gW E r shM) z) A) args s mc ms A) (gW E r shM) 280 [(0, .ref (r 200))] [] t9) (hK40 : ∀ (t9 : St), K40 t9 = some z → gP p l e rm_f_X12_figure s m args below meth c E A 7 (MQ below ((gqI E (gW E r shM) z) A) args s mc ms A) (gW E r shM) 301 [(0, .ref (r 200))] [] t9) (hK41 : ∀ (t9 : St), K41 t9 = some z → gP p l e rm_f_X12_figure s m args below meth c E A 7 (MQ below ((gqI E (gW E r shM) z) A) args s mc ms A) (gW E r shM) 318 [(0, .ref (r 200))] [] t9) (hK42 : ∀ (t9 : St), K42 t9 = some z → gP p l e rm_f_X12_figure s m args below meth c E A 7 (MQ below ((gqI E (gW E r shM) z) A) args s mc ms A) (gW E r shM) 332 [(0, .ref (r 200)), (1, iv y33), (2, iv y34)] [] t9) : ∀ (n9 : Nat) (x36 : Int) (x37 : Int) (t38 : St), f_X12_figure_L169 N K39 K40 K41 K42 y35 n9 x36 x37 t38 = some z → gP p l e rm_f_X12_figure s m args below meth c E A 7 (MQ below ((gqI E (gW E r shM) z) A) args s mc ms A) (gW E r shM) 169 [(0, .ref (r 200)), (1, iv y33), (2, iv y34), (3, iv y35), (4, iv x36), (5, iv x37)] [] t38 := by
  intro n9
  induction n9 with
  | zero => intro x36 x37 t38 h; cases h
  | succ n9 ih =>
    intro x36 x37 t38 h
    unfold f_X12_figure_L169 at h
    refine g_iload X dX12_figure_169 5 rfl ?_
    refine g_if_eq (tgt := 332) X dX12_figure_171 (by decide) h (fun h => ?_) (fun h => ?_)
    · exact g_sub (lv' := [(0, .ref (r 200)), (1, iv y33), (2, iv y34)]) [0, 1, 2] rfl (hK42 t38 h)
    · refine g_bipush X dX12_figure_174 (by decide) ?_
      refine g_aload_n X dX12_figure_176 0 rfl ?_
      refine g_getI X fM_15 rfl dX12_figure_177 h (fun v43 h => ?_)
      refine g_imul X dX12_figure_180 ?_
      refine g_iload X dX12_figure_181 4 rfl ?_
      refine g_iadd X dX12_figure_183 ?_
      refine g_istore (lv' := [(6, iv ((8 * v43) + x36)), (0, .ref (r 200)), (1, iv y33), (2, iv y34), (3, iv y35), (4, iv x36), (5, iv x37)]) X dX12_figure_184 (by decide) rfl ?_
      refine g_aload_n X dX12_figure_186 1 rfl ?_
      refine g_bipush X dX12_figure_187 (by decide) ?_
      refine g_bipush X dX12_figure_189 (by decide) ?_
      refine g_callI (rest := []) X (fun u9 h9 => cp_X12_number l E r N (-32) 32 t38 u9 h9) yy_X12_number yi_X12_number wdM_RX12_384 0 12 (gW_at oM) rfl rfl rfl (Nat.le_of_ble_eq_true rfl) dX12_figure_191 ⟨by decide, by decide⟩ ⟨rfl, rfl⟩ h (fun v45 t44 h => ?_)
      refine g_if_ne (tgt := 199) X dX12_figure_194 (by decide) h (fun h => ?_) (fun h => ?_)
      · refine g_aload_n X dX12_figure_199 1 rfl ?_
        refine g_getR X fM_26 rfl dX12_figure_200 ?_
        refine g_iload X dX12_figure_203 0 rfl ?_
        refine g_aload_n X dX12_figure_205 1 rfl ?_
        refine g_getI X fM_110 rfl dX12_figure_206 h (fun v46 h => ?_)
        refine g_iast X aM_26 dX12_figure_209 h (fun t47 h => ?_)
        refine g_aload_n X dX12_figure_210 1 rfl ?_
        refine g_bipush X dX12_figure_211 (by decide) ?_
        refine g_bipush X dX12_figure_213 (by decide) ?_
        refine g_callI (rest := []) X (fun u9 h9 => cp_X12_number l E r N (-32) 32 t47 u9 h9) yy_X12_number yi_X12_number wdM_RX12_384 0 12 (gW_at oM) rfl rfl rfl (Nat.le_of_ble_eq_true rfl) dX12_figure_215 ⟨by decide, by decide⟩ ⟨rfl, rfl⟩ h (fun v49 t48 h => ?_)
        refine g_if_ne (tgt := 223) X dX12_figure_218 (by decide) h (fun h => ?_) (fun h => ?_)
        · refine g_aload_n X dX12_figure_223 1 rfl ?_
          refine g_getR X fM_27 rfl dX12_figure_224 ?_
          refine g_iload X dX12_figure_227 0 rfl ?_
          refine g_aload_n X dX12_figure_229 1 rfl ?_
          refine g_getI X fM_110 rfl dX12_figure_230 h (fun v50 h => ?_)
          refine g_iast X aM_27 dX12_figure_233 h (fun t51 h => ?_)
          refine g_aload_n X dX12_figure_234 1 rfl ?_
          refine g_bipush X dX12_figure_235 (by decide) ?_
          refine g_bipush X dX12_figure_237 (by decide) ?_
          refine g_callI (rest := []) X (fun u9 h9 => cp_X12_number l E r N (-8) 8 t51 u9 h9) yy_X12_number yi_X12_number wdM_RX12_384 0 12 (gW_at oM) rfl rfl rfl (Nat.le_of_ble_eq_true rfl) dX12_figure_239 ⟨by decide, by decide⟩ ⟨rfl, rfl⟩ h (fun v53 t52 h => ?_)
          refine g_if_ne (tgt := 247) X dX12_figure_242 (by decide) h (fun h => ?_) (fun h => ?_)
          · refine g_aload_n X dX12_figure_247 1 rfl ?_
            refine g_getR X fM_28 rfl dX12_figure_248 ?_
            refine g_iload X dX12_figure_251 0 rfl ?_
            refine g_aload_n X dX12_figure_253 1 rfl ?_
            refine g_getI X fM_110 rfl dX12_figure_254 h (fun v54 h => ?_)
            refine g_iast X aM_28 dX12_figure_257 h (fun t55 h => ?_)
            refine g_iinc (lv' := [(4, iv (x36 + 1)), (6, iv ((8 * v43) + x36)), (0, .ref (r 200)), (1, iv y33), (2, iv y34), (3, iv y35), (5, iv x37)]) X dX12_figure_258 (k := 5) rfl (by decide) rfl ?_
            refine g_aload_n X dX12_figure_261 2 rfl ?_
            refine g_bipush X dX12_figure_262 (by decide) ?_
            refine g_callI (rest := []) X (fun u9 h9 => cp_X12_isSign l E r N 44 t55 u9 h9) yy_X12_isSign yi_X12_isSign wdM_RX12_332 0 12 (gW_at oM) rfl rfl rfl (Nat.le_of_ble_eq_true rfl) dX12_figure_264 ⟨by decide, by decide⟩ ⟨rfl, rfl⟩ h (fun v57 t56 h => ?_)
            refine g_istore (lv' := [(5, iv v57), (4, iv (x36 + 1)), (6, iv ((8 * v43) + x36)), (0, .ref (r 200)), (1, iv y33), (2, iv y34), (3, iv y35)]) X dX12_figure_267 (by decide) rfl ?_
            refine g_iload X dX12_figure_269 0 rfl ?_
            refine g_join (J := fun jj => ∀ (t58 : St), jj  t58 = some z → gP p l e rm_f_X12_figure s m args below meth c E A 7 (MQ below ((gqI E (gW E r shM) z) A) args s mc ms A) (gW E r shM) 287 [(0, .ref (r 200)), (1, iv y33), (2, iv y34), (3, iv y35), (4, iv (x36 + 1)), (5, iv v57)] [] t58) h (fun  t58 h => ?_) (fun J59 hJ59 h => ?_)
            · refine g_iload X dX12_figure_287 5 rfl ?_
              refine g_join (J := fun jj => ∀ (t60 : St), jj  t60 = some z → gP p l e rm_f_X12_figure s m args below meth c E A 7 (MQ below ((gqI E (gW E r shM) z) A) args s mc ms A) (gW E r shM) 307 [(0, .ref (r 200)), (1, iv y33), (2, iv y34), (3, iv y35), (4, iv (x36 + 1)), (5, iv v57)] [] t60) h (fun  t60 h => ?_) (fun J61 hJ61 h => ?_)
              · refine g_iload X dX12_figure_307 5 rfl ?_
                refine g_join (J := fun jj => ∀ (t62 : St), jj  t62 = some z → gP p l e rm_f_X12_figure s m args below meth c E A 7 (MQ below ((gqI E (gW E r shM) z) A) args s mc ms A) (gW E r shM) 325 [(0, .ref (r 200)), (1, iv y33), (2, iv y34), (3, iv y35), (4, iv (x36 + 1)), (5, iv v57)] [] t62) h (fun  t62 h => ?_) (fun J63 hJ63 h => ?_)
                · refine g_aload_n X dX12_figure_325 0 rfl ?_
                  refine g_callV (rest := []) X (fun u9 h9 => cp_X12_next l E r N t62 u9 h9) yy_X12_next yi_X12_next wdM_RX12_323 0 12 (gW_at oM) rfl rfl rfl (Nat.le_of_ble_eq_true rfl) dX12_figure_326 ⟨by decide, by decide⟩ ⟨rfl, rfl⟩ h (fun t64 h => ?_)
                  refine g_goto (tgt := 169) X dX12_figure_329 (by decide) ?_
                  exact g_sub (lv' := [(0, .ref (r 200)), (1, iv y33), (2, iv y34), (3, iv y35), (4, iv (x36 + 1)), (5, iv v57)]) [0, 1, 2, 3, 4, 5] rfl (ih (x36 + 1) v57 t64 h)
                refine g_if_ne (tgt := 325) X dX12_figure_309 (by decide) h (fun h => ?_) (fun h => ?_)
                · exact g_sub (lv' := [(0, .ref (r 200)), (1, iv y33), (2, iv y34), (3, iv y35), (4, iv (x36 + 1)), (5, iv v57)]) [0, 1, 2, 3, 4, 5] rfl (hJ63 t60 h)
                · refine g_iload X dX12_figure_312 4 rfl ?_
                  refine g_iload_n X dX12_figure_314 3 rfl ?_
                  refine g_icmp_ge (tgt := 325) X dX12_figure_315 (by decide) h (fun h => ?_) (fun h => ?_)
                  · exact g_sub (lv' := [(0, .ref (r 200)), (1, iv y33), (2, iv y34), (3, iv y35), (4, iv (x36 + 1)), (5, iv v57)]) [0, 1, 2, 3, 4, 5] rfl (hJ63 t60 h)
                  · exact g_sub (lv' := [(0, .ref (r 200))]) [0] rfl (hK41 t60 h)
              refine g_if_ne (tgt := 307) X dX12_figure_289 (by decide) h (fun h => ?_) (fun h => ?_)
              · exact g_sub (lv' := [(0, .ref (r 200)), (1, iv y33), (2, iv y34), (3, iv y35), (4, iv (x36 + 1)), (5, iv v57)]) [0, 1, 2, 3, 4, 5] rfl (hJ61 t58 h)
              · refine g_aload_n X dX12_figure_292 0 rfl ?_
                refine g_bipush X dX12_figure_293 (by decide) ?_
                refine g_callI (rest := []) X (fun u9 h9 => cp_X12_isSign l E r N 59 t58 u9 h9) yy_X12_isSign yi_X12_isSign wdM_RX12_332 0 12 (gW_at oM) rfl rfl rfl (Nat.le_of_ble_eq_true rfl) dX12_figure_295 ⟨by decide, by decide⟩ ⟨rfl, rfl⟩ h (fun v66 t65 h => ?_)
                refine g_if_ne (tgt := 307) X dX12_figure_298 (by decide) h (fun h => ?_) (fun h => ?_)
                · exact g_sub (lv' := [(0, .ref (r 200)), (1, iv y33), (2, iv y34), (3, iv y35), (4, iv (x36 + 1)), (5, iv v57)]) [0, 1, 2, 3, 4, 5] rfl (hJ61 t65 h)
                · exact g_sub (lv' := [(0, .ref (r 200))]) [0] rfl (hK40 t65 h)
            refine g_if_eq (tgt := 287) X dX12_figure_271 (by decide) h (fun h => ?_) (fun h => ?_)
            · exact g_sub (lv' := [(0, .ref (r 200)), (1, iv y33), (2, iv y34), (3, iv y35), (4, iv (x36 + 1)), (5, iv v57)]) [3, 4, 5, 6, 1, 0] rfl (hJ59 t56 h)
            · refine g_iload X dX12_figure_274 1 rfl ?_
              refine g_iload_n X dX12_figure_276 6 rfl ?_
              refine g_icmp_ne (tgt := 287) X dX12_figure_277 (by decide) h (fun h => ?_) (fun h => ?_)
              · exact g_sub (lv' := [(0, .ref (r 200)), (1, iv y33), (2, iv y34), (3, iv y35), (4, iv (x36 + 1)), (5, iv v57)]) [3, 4, 5, 6, 1, 0] rfl (hJ59 t56 h)
              · exact g_sub (lv' := [(0, .ref (r 200))]) [3] rfl (hK39 t56 h)
          · refine g_iconst X dX12_figure_245 ?_
            exact g_zret X h dX12_figure_246
        · refine g_iconst X dX12_figure_221 ?_
          exact g_zret X h dX12_figure_222
      · refine g_iconst X dX12_figure_197 ?_
        exact g_zret X h dX12_figure_198
set_option maxHeartbeats 4000000 in
set_option maxRecDepth 100000 in
theorem b_f_X12_figure {p : Program} {l : Launch} {e : Env} {s : State} {m : MethodId} {args : Array Value} {below : List Frame} {meth : Method} {c : Code} {E : cE} {A : Nat → Prop} {r : Nat → Nat} {mc ms : Nat} {z : Int × St} {N : Nat} {t : St} (X : gX p s m meth c cX12_figure 7 (some .boolean) yX12_figure args E A) (h : f_X12_figure N t = some z) : gP p l e rm_f_X12_figure s m args below meth c E A 7 (MQ below ((gqI E (gW E r shM) z) A) args s mc ms A) (gW E r shM) 0 [(0, .ref (r 200))] [] t := by
  unfold f_X12_figure at h
  refine g_aload_n X dX12_figure_0 0 rfl ?_
  refine g_getI X fM_15 rfl dX12_figure_1 h (fun v1 h => ?_)
  refine g_bipush X dX12_figure_4 (by decide) ?_
  refine g_icmp_ne (tgt := 15) X dX12_figure_6 (by decide) h (fun h => ?_) (fun h => ?_)
  · refine g_aload_n X dX12_figure_15 0 rfl ?_
    refine g_callV (rest := []) X (fun u9 h9 => cp_X12_next l E r N t u9 h9) yy_X12_next yi_X12_next wdM_RX12_323 0 12 (gW_at oM) rfl rfl rfl (Nat.le_of_ble_eq_true rfl) dX12_figure_16 ⟨by decide, by decide⟩ ⟨rfl, rfl⟩ h (fun t2 h => ?_)
    refine g_aload_n X dX12_figure_19 0 rfl ?_
    refine g_callI (rest := []) X (fun u9 h9 => cp_X12_newName l E r N t2 u9 h9) yy_X12_newName yi_X12_newName wdM_RX12_365 0 12 (gW_at oM) rfl rfl rfl (Nat.le_of_ble_eq_true rfl) dX12_figure_20 ⟨by decide, by decide⟩ ⟨rfl, rfl⟩ h (fun v4 t3 h => ?_)
    refine g_if_ne (tgt := 28) X dX12_figure_23 (by decide) h (fun h => ?_) (fun h => ?_)
    · refine g_aload_n X dX12_figure_28 0 rfl ?_
      refine g_getI X fM_111 rfl dX12_figure_29 h (fun v5 h => ?_)
      refine g_istore_n (lv' := [(1, iv v5), (0, .ref (r 200))]) X dX12_figure_32 rfl (by decide) rfl ?_
      refine g_aload_n X dX12_figure_33 1 rfl ?_
      refine g_getI X fM_112 rfl dX12_figure_34 h (fun v6 h => ?_)
      refine g_istore_n (lv' := [(2, iv v6), (1, iv v5), (0, .ref (r 200))]) X dX12_figure_37 rfl (by decide) rfl ?_
      refine g_aload_n X dX12_figure_38 2 rfl ?_
      refine g_iconst X dX12_figure_39 ?_
      refine g_callI (rest := []) X (fun u9 h9 => cp_X12_key l E r N 4 t3 u9 h9) yy_X12_key yi_X12_key wdM_RX12_378 0 12 (gW_at oM) rfl rfl rfl (Nat.le_of_ble_eq_true rfl) dX12_figure_40 ⟨by decide, by decide⟩ ⟨rfl, rfl⟩ h (fun v8 t7 h => ?_)
      refine g_if_eq (tgt := 54) X dX12_figure_43 (by decide) h (fun h => ?_) (fun h => ?_)
      · refine g_iconst X dX12_figure_54 ?_
        exact g_zret X h dX12_figure_55
      · refine g_aload_n X dX12_figure_46 2 rfl ?_
        refine g_iconst X dX12_figure_47 ?_
        refine g_callI (rest := []) X (fun u9 h9 => cp_X12_knownName l E r N 0 t7 u9 h9) yy_X12_knownName yi_X12_knownName wdM_RX12_381 0 12 (gW_at oM) rfl rfl rfl (Nat.le_of_ble_eq_true rfl) dX12_figure_48 ⟨by decide, by decide⟩ ⟨rfl, rfl⟩ h (fun v10 t9 h => ?_)
        refine g_if_ne (tgt := 56) X dX12_figure_51 (by decide) h (fun h => ?_) (fun h => ?_)
        · refine g_aload_n X dX12_figure_56 2 rfl ?_
          refine g_getR X fM_23 rfl dX12_figure_57 ?_
          refine g_aload_n X dX12_figure_60 2 rfl ?_
          refine g_getI X fM_15 rfl dX12_figure_61 h (fun v11 h => ?_)
          refine g_aload_n X dX12_figure_64 2 rfl ?_
          refine g_getI X fM_113 rfl dX12_figure_65 h (fun v12 h => ?_)
          refine g_iast X aM_23 dX12_figure_68 h (fun t13 h => ?_)
          refine g_aload_n X dX12_figure_69 2 rfl ?_
          refine g_iconst X dX12_figure_70 ?_
          refine g_callI (rest := []) X (fun u9 h9 => cp_X12_key l E r N 5 t13 u9 h9) yy_X12_key yi_X12_key wdM_RX12_378 0 12 (gW_at oM) rfl rfl rfl (Nat.le_of_ble_eq_true rfl) dX12_figure_71 ⟨by decide, by decide⟩ ⟨rfl, rfl⟩ h (fun v15 t14 h => ?_)
          refine g_if_eq (tgt := 87) X dX12_figure_74 (by decide) h (fun h => ?_) (fun h => ?_)
          · refine g_iconst X dX12_figure_87 ?_
            exact g_zret X h dX12_figure_88
          · refine g_aload_n X dX12_figure_77 2 rfl ?_
            refine g_iconst X dX12_figure_78 ?_
            refine g_bipush X dX12_figure_79 (by decide) ?_
            refine g_callI (rest := []) X (fun u9 h9 => cp_X12_number l E r N 0 64 t14 u9 h9) yy_X12_number yi_X12_number wdM_RX12_384 0 12 (gW_at oM) rfl rfl rfl (Nat.le_of_ble_eq_true rfl) dX12_figure_81 ⟨by decide, by decide⟩ ⟨rfl, rfl⟩ h (fun v17 t16 h => ?_)
            refine g_if_ne (tgt := 89) X dX12_figure_84 (by decide) h (fun h => ?_) (fun h => ?_)
            · refine g_aload_n X dX12_figure_89 2 rfl ?_
              refine g_getR X fM_24 rfl dX12_figure_90 ?_
              refine g_aload_n X dX12_figure_93 2 rfl ?_
              refine g_getI X fM_15 rfl dX12_figure_94 h (fun v18 h => ?_)
              refine g_aload_n X dX12_figure_97 2 rfl ?_
              refine g_getI X fM_110 rfl dX12_figure_98 h (fun v19 h => ?_)
              refine g_iast X aM_24 dX12_figure_101 h (fun t20 h => ?_)
              refine g_aload_n X dX12_figure_102 2 rfl ?_
              refine g_bipush X dX12_figure_103 (by decide) ?_
              refine g_callI (rest := []) X (fun u9 h9 => cp_X12_key l E r N 6 t20 u9 h9) yy_X12_key yi_X12_key wdM_RX12_378 0 12 (gW_at oM) rfl rfl rfl (Nat.le_of_ble_eq_true rfl) dX12_figure_105 ⟨by decide, by decide⟩ ⟨rfl, rfl⟩ h (fun v22 t21 h => ?_)
              refine g_if_eq (tgt := 122) X dX12_figure_108 (by decide) h (fun h => ?_) (fun h => ?_)
              · refine g_iconst X dX12_figure_122 ?_
                exact g_zret X h dX12_figure_123
              · refine g_aload_n X dX12_figure_111 2 rfl ?_
                refine g_iconst X dX12_figure_112 ?_
                refine g_sipush X dX12_figure_113 (by decide) ?_
                refine g_callI (rest := []) X (fun u9 h9 => cp_X12_number l E r N 0 1000 t21 u9 h9) yy_X12_number yi_X12_number wdM_RX12_384 0 12 (gW_at oM) rfl rfl rfl (Nat.le_of_ble_eq_true rfl) dX12_figure_116 ⟨by decide, by decide⟩ ⟨rfl, rfl⟩ h (fun v24 t23 h => ?_)
                refine g_if_ne (tgt := 124) X dX12_figure_119 (by decide) h (fun h => ?_) (fun h => ?_)
                · refine g_aload_n X dX12_figure_124 2 rfl ?_
                  refine g_getR X fM_25 rfl dX12_figure_125 ?_
                  refine g_aload_n X dX12_figure_128 2 rfl ?_
                  refine g_getI X fM_15 rfl dX12_figure_129 h (fun v25 h => ?_)
                  refine g_aload_n X dX12_figure_132 2 rfl ?_
                  refine g_getI X fM_110 rfl dX12_figure_133 h (fun v26 h => ?_)
                  refine g_iast X aM_25 dX12_figure_136 h (fun t27 h => ?_)
                  refine g_aload_n X dX12_figure_137 2 rfl ?_
                  refine g_bipush X dX12_figure_138 (by decide) ?_
                  refine g_callI (rest := []) X (fun u9 h9 => cp_X12_sign l E r N 61 t27 u9 h9) yy_X12_sign yi_X12_sign wdM_RX12_344 0 12 (gW_at oM) rfl rfl rfl (Nat.le_of_ble_eq_true rfl) dX12_figure_140 ⟨by decide, by decide⟩ ⟨rfl, rfl⟩ h (fun v29 t28 h => ?_)
                  refine g_if_ne (tgt := 148) X dX12_figure_143 (by decide) h (fun h => ?_) (fun h => ?_)
                  · refine g_aload_n X dX12_figure_148 2 rfl ?_
                    refine g_getR X fM_18 rfl dX12_figure_149 ?_
                    refine g_aload_n X dX12_figure_152 2 rfl ?_
                    refine g_getR X fM_23 rfl dX12_figure_153 ?_
                    refine g_aload_n X dX12_figure_156 2 rfl ?_
                    refine g_getI X fM_15 rfl dX12_figure_157 h (fun v30 h => ?_)
                    refine g_iald X aM_23 dX12_figure_160 h (fun v31 h => ?_)
                    refine g_iald X aM_18 dX12_figure_161 h (fun v32 h => ?_)
                    refine g_istore_n (lv' := [(3, iv v32), (2, iv v6), (1, iv v5), (0, .ref (r 200))]) X dX12_figure_162 rfl (by decide) rfl ?_
                    refine g_iconst X dX12_figure_163 ?_
                    refine g_istore (lv' := [(4, iv 0), (3, iv v32), (2, iv v6), (1, iv v5), (0, .ref (r 200))]) X dX12_figure_164 (by decide) rfl ?_
                    refine g_iconst X dX12_figure_166 ?_
                    refine g_istore (lv' := [(5, iv 1), (4, iv 0), (3, iv v32), (2, iv v6), (1, iv v5), (0, .ref (r 200))]) X dX12_figure_167 (by decide) rfl ?_
                    refine g_sub (lv' := [(0, .ref (r 200)), (1, iv v5), (2, iv v6), (3, iv v32), (4, iv 0), (5, iv 1)]) [5, 4, 3, 2, 1, 0] rfl (t_f_X12_figure_L169 X (fun t67 h => ?_) (fun t70 h => ?_) (fun t73 h => ?_) (fun t76 h => ?_) N 0 1 t28 h)
                    · refine g_aload_n X dX12_figure_280 0 rfl ?_
                      refine g_bipush X dX12_figure_281 (by decide) ?_
                      refine g_callI (rest := []) X (fun u9 h9 => cp_X12_wrong l E r N 6 t67 u9 h9) yy_X12_wrong yi_X12_wrong wdM_RX12_317 0 12 (gW_at oM) rfl rfl rfl (Nat.le_of_ble_eq_true rfl) dX12_figure_283 ⟨by decide, by decide⟩ ⟨rfl, rfl⟩ h (fun v69 t68 h => ?_)
                      exact g_zret X h dX12_figure_286
                    · refine g_aload_n X dX12_figure_301 0 rfl ?_
                      refine g_iconst X dX12_figure_302 ?_
                      refine g_callI (rest := []) X (fun u9 h9 => cp_X12_wrong l E r N 1 t70 u9 h9) yy_X12_wrong yi_X12_wrong wdM_RX12_317 0 12 (gW_at oM) rfl rfl rfl (Nat.le_of_ble_eq_true rfl) dX12_figure_303 ⟨by decide, by decide⟩ ⟨rfl, rfl⟩ h (fun v72 t71 h => ?_)
                      exact g_zret X h dX12_figure_306
                    · refine g_aload_n X dX12_figure_318 0 rfl ?_
                      refine g_bipush X dX12_figure_319 (by decide) ?_
                      refine g_callI (rest := []) X (fun u9 h9 => cp_X12_wrong l E r N 6 t73 u9 h9) yy_X12_wrong yi_X12_wrong wdM_RX12_317 0 12 (gW_at oM) rfl rfl rfl (Nat.le_of_ble_eq_true rfl) dX12_figure_321 ⟨by decide, by decide⟩ ⟨rfl, rfl⟩ h (fun v75 t74 h => ?_)
                      exact g_zret X h dX12_figure_324
                    · refine g_aload_n X dX12_figure_332 0 rfl ?_
                      refine g_iconst X dX12_figure_333 ?_
                      refine g_aload_n X dX12_figure_334 0 rfl ?_
                      refine g_getI X fM_15 rfl dX12_figure_335 h (fun v77 h => ?_)
                      refine g_iload_n X dX12_figure_338 1 rfl ?_
                      refine g_iload_n X dX12_figure_339 2 rfl ?_
                      refine g_callV (rest := []) X (fun u9 h9 => cp_X12_tell l E r N 1 v77 v5 v6 t76 u9 h9) yy_X12_tell yi_X12_tell wdM_RX12_372 0 12 (gW_at oM) rfl rfl rfl (Nat.le_of_ble_eq_true rfl) dX12_figure_340 ⟨by decide, by decide⟩ ⟨rfl, rfl⟩ h (fun t78 h => ?_)
                      refine g_aload_n X dX12_figure_343 0 rfl ?_
                      refine g_dup X rfl dX12_figure_344 ?_
                      refine g_getI X fM_15 rfl dX12_figure_345 h (fun v79 h => ?_)
                      refine g_iconst X dX12_figure_348 ?_
                      refine g_iadd X dX12_figure_349 ?_
                      refine g_putI X fM_15w rfl dX12_figure_350 h (fun t80 h => ?_)
                      refine g_iconst X dX12_figure_353 ?_
                      exact g_zret X h dX12_figure_354
                  · refine g_iconst X dX12_figure_146 ?_
                    exact g_zret X h dX12_figure_147
                · refine g_iconst X dX12_figure_122 ?_
                  exact g_zret X h dX12_figure_123
            · refine g_iconst X dX12_figure_87 ?_
              exact g_zret X h dX12_figure_88
        · refine g_iconst X dX12_figure_54 ?_
          exact g_zret X h dX12_figure_55
    · refine g_iconst X dX12_figure_26 ?_
      exact g_zret X h dX12_figure_27
  · refine g_aload_n X dX12_figure_9 0 rfl ?_
    refine g_iconst X dX12_figure_10 ?_
    refine g_callI (rest := []) X (fun u9 h9 => cp_X12_wrong l E r N 5 t u9 h9) yy_X12_wrong yi_X12_wrong wdM_RX12_317 0 12 (gW_at oM) rfl rfl rfl (Nat.le_of_ble_eq_true rfl) dX12_figure_11 ⟨by decide, by decide⟩ ⟨rfl, rfl⟩ h (fun v82 t81 h => ?_)
    exact g_zret X h dX12_figure_14
set_option maxHeartbeats 4000000 in
set_option maxRecDepth 100000 in
theorem cp_X12_figure (l : Launch) (E : cE) (r : Nat → Nat) (N : Nat) (t : St) (z : Int × St) (h : f_X12_figure N t = some z) : cM l E yX12_figure cX12_figure 7 (some .boolean) rm_f_X12_figure [.ref (r 200)] (gW E r shM t) (gqI E (gW E r shM) z) := by
  refine g_of (w := gW E r shM) (by decide) (Nat.le_of_ble_eq_true rfl) ?_
  intro p e s m below meth c A X
  exact g_sub (lv' := [(0, .ref (r 200))]) [0] rfl (b_f_X12_figure X h)
theorem yy_X12_figure : cY yX12_figure cX12_figure 7 (some .boolean) 0 := ⟨wdK_X12_figure, wdZ_RX12, by decide +kernel⟩
theorem yi_X12_figure : cYi yX12_figure := ⟨wdN_X12_figure, wdS_X12_figure⟩
abbrev rmS_whoText (D : Nat) : Room := { frames := D + 11, cells := 0, slots := 0, locals := 60 * D + 310 }
theorem yy_X12_whoText : cY yX12_whoText cX12_whoText 1 (some .boolean) 0 := ⟨wdK_X12_whoText, wdZ_RX12, by decide +kernel⟩
theorem yi_X12_whoText : cYi yX12_whoText := ⟨wdN_X12_whoText, wdS_X12_whoText⟩
theorem yy_X12_whoAnd : cY yX12_whoAnd cX12_whoAnd 1 (some .boolean) 0 := ⟨wdK_X12_whoAnd, wdZ_RX12, by decide +kernel⟩
theorem yi_X12_whoAnd : cYi yX12_whoAnd := ⟨wdN_X12_whoAnd, wdS_X12_whoAnd⟩
theorem yy_X12_whoOne : cY yX12_whoOne cX12_whoOne 1 (some .boolean) 0 := ⟨wdK_X12_whoOne, wdZ_RX12, by decide +kernel⟩
theorem yi_X12_whoOne : cYi yX12_whoOne := ⟨wdN_X12_whoOne, wdS_X12_whoOne⟩
theorem dX12_whoText_0 : decode cX12_whoText 0 = .ok (.aload_n 0, 1) := by decide +kernel
theorem dX12_whoText_1 : decode cX12_whoText 1 = .ok (.invokevirtual 413, 3) := by decide +kernel
theorem dX12_whoText_4 : decode cX12_whoText 4 = .ok (.ifCond .ne 5, 3) := by decide +kernel
theorem dX12_whoText_7 : decode cX12_whoText 7 = .ok (.iconst 0, 1) := by decide +kernel
theorem dX12_whoText_8 : decode cX12_whoText 8 = .ok (.ireturn, 1) := by decide +kernel
theorem dX12_whoText_9 : decode cX12_whoText 9 = .ok (.aload_n 0, 1) := by decide +kernel
theorem dX12_whoText_10 : decode cX12_whoText 10 = .ok (.bipush 24, 2) := by decide +kernel
theorem dX12_whoText_12 : decode cX12_whoText 12 = .ok (.invokevirtual 326, 3) := by decide +kernel
theorem dX12_whoText_15 : decode cX12_whoText 15 = .ok (.ifCond .eq 21, 3) := by decide +kernel
theorem dX12_whoText_18 : decode cX12_whoText 18 = .ok (.aload_n 0, 1) := by decide +kernel
theorem dX12_whoText_19 : decode cX12_whoText 19 = .ok (.bipush 24, 2) := by decide +kernel
theorem dX12_whoText_21 : decode cX12_whoText 21 = .ok (.invokevirtual 378, 3) := by decide +kernel
theorem dX12_whoText_24 : decode cX12_whoText 24 = .ok (.ifCond .eq 10, 3) := by decide +kernel
theorem dX12_whoText_27 : decode cX12_whoText 27 = .ok (.aload_n 0, 1) := by decide +kernel
theorem dX12_whoText_28 : decode cX12_whoText 28 = .ok (.invokevirtual 413, 3) := by decide +kernel
theorem dX12_whoText_31 : decode cX12_whoText 31 = .ok (.ifCond .ne (-22), 3) := by decide +kernel
theorem dX12_whoText_34 : decode cX12_whoText 34 = .ok (.iconst 0, 1) := by decide +kernel
theorem dX12_whoText_35 : decode cX12_whoText 35 = .ok (.ireturn, 1) := by decide +kernel
theorem dX12_whoText_36 : decode cX12_whoText 36 = .ok (.iconst 1, 1) := by decide +kernel
theorem dX12_whoText_37 : decode cX12_whoText 37 = .ok (.ireturn, 1) := by decide +kernel
def o_X12_whoText_L9 (N : Nat) (fo_whoAnd : (St → Option (Int × St))) (K4 : (St → Option (Int × St))) : Nat → St → Option (Int × St)
  | 0, _ => none
  | n9 + 1, t3 =>
    bdI (f_X12_isKey N 24 t3) fun v6 t5 =>
    cmpI v6 0 (if v6 = 0 then (K4 t5)
    else (bdI (f_X12_key N 24 t5) fun v8 t7 =>
    cmpI v8 0 (if v8 = 0 then (boI 0 (some (0, t7)))
    else (bdI (fo_whoAnd t7) fun v10 t9 =>
    cmpI v10 0 (if v10 = 0 then (boI 0 (some (0, t9)))
    else (o_X12_whoText_L9 N fo_whoAnd K4 n9 t9))))))
def o_X12_whoText (N : Nat) (fo_whoAnd : (St → Option (Int × St))) (t : St) : Option (Int × St) :=
    bdI (fo_whoAnd t) fun v2 t1 =>
    cmpI v2 0 (if v2 = 0 then (boI 0 (some (0, t1)))
    else (o_X12_whoText_L9 N fo_whoAnd (fun (t11 : St) => boI 1 (some (1, t11))) N t1))
set_option maxHeartbeats 4000000 in
set_option maxRecDepth 100000 in
theorem t_o_X12_whoText_L9 {p : Program} {l : Launch} {e : Env} {s : State} {m : MethodId} {args : Array Value} {below : List Frame} {meth : Method} {c : Code} {E : cE} {A : Nat → Prop} {r : Nat → Nat} {mc ms : Nat} {z : Int × St} {N : Nat} {D9 : Nat} {fo_whoAnd : (St → Option (Int × St))} {K4 : (St → Option (Int × St))} (X : gX p s m meth c cX12_whoText 1 (some .boolean) yX12_whoText args E A) (ho_whoAnd : ∀ (t : St) (z : Int × St), fo_whoAnd t = some z → cM l E yX12_whoAnd cX12_whoAnd 1 (some .boolean) (rmS_whoText D9) [.ref (r 200)] (gW E r shM t) (gqI E (gW E r shM) z)) (hK4 : ∀ (t9 : St), K4 t9 = some z → gP p l e (rmS_whoText (D9 + 1)) s m args below meth c E A 1 (MQ below ((gqI E (gW E r shM) z) A) args s mc ms A) (gW E r shM) 36 [] [] t9) : ∀ (n9 : Nat) (t3 : St), o_X12_whoText_L9 N fo_whoAnd K4 n9 t3 = some z → gP p l e (rmS_whoText (D9 + 1)) s m args below meth c E A 1 (MQ below ((gqI E (gW E r shM) z) A) args s mc ms A) (gW E r shM) 9 [(0, .ref (r 200))] [] t3 := by
  intro n9
  induction n9 with
  | zero => intro t3 h; cases h
  | succ n9 ih =>
    intro t3 h
    unfold o_X12_whoText_L9 at h
    refine g_aload_n X dX12_whoText_9 0 rfl ?_
    refine g_bipush X dX12_whoText_10 (by decide) ?_
    refine g_callI (rest := []) X (fun u9 h9 => cp_X12_isKey l E r N 24 t3 u9 h9) yy_X12_isKey yi_X12_isKey wdM_RX12_326 0 12 (gW_at oM) rfl rfl rfl (Nat.le_of_ble_eq_true rfl) dX12_whoText_12 ⟨by show 0 + 1 ≤ D9 + 1 + 11; omega, by show 8 + (2 + 11) + 0 ≤ 60 * (D9 + 1) + 310; omega⟩ ⟨rfl, rfl⟩ h (fun v6 t5 h => ?_)
    refine g_if_eq (tgt := 36) X dX12_whoText_15 (by decide) h (fun h => ?_) (fun h => ?_)
    · exact g_sub (lv' := []) [] rfl (hK4 t5 h)
    · refine g_aload_n X dX12_whoText_18 0 rfl ?_
      refine g_bipush X dX12_whoText_19 (by decide) ?_
      refine g_callI (rest := []) X (fun u9 h9 => cp_X12_key l E r N 24 t5 u9 h9) yy_X12_key yi_X12_key wdM_RX12_378 0 12 (gW_at oM) rfl rfl rfl (Nat.le_of_ble_eq_true rfl) dX12_whoText_21 ⟨by show 9 + 1 ≤ D9 + 1 + 11; omega, by show 8 + (2 + 11) + 268 ≤ 60 * (D9 + 1) + 310; omega⟩ ⟨rfl, rfl⟩ h (fun v8 t7 h => ?_)
      refine g_if_eq (tgt := 34) X dX12_whoText_24 (by decide) h (fun h => ?_) (fun h => ?_)
      · refine g_iconst X dX12_whoText_34 ?_
        exact g_zret X h dX12_whoText_35
      · refine g_aload_n X dX12_whoText_27 0 rfl ?_
        refine g_callI (rest := []) X (fun u9 h9 => ho_whoAnd t7 u9 h9) yy_X12_whoAnd yi_X12_whoAnd wdM_RX12_413 0 12 (gW_at oM) rfl rfl rfl (Nat.le_of_ble_eq_true rfl) dX12_whoText_28 ⟨by show D9 + 11 + 1 ≤ D9 + 1 + 11; omega, by show 8 + (1 + 11) + (60 * D9 + 310) ≤ 60 * (D9 + 1) + 310; omega⟩ ⟨rfl, rfl⟩ h (fun v10 t9 h => ?_)
        refine g_if_ne (tgt := 9) X dX12_whoText_31 (by decide) h (fun h => ?_) (fun h => ?_)
        · exact g_sub (lv' := [(0, .ref (r 200))]) [0] rfl (ih t9 h)
        · refine g_iconst X dX12_whoText_34 ?_
          exact g_zret X h dX12_whoText_35
set_option maxHeartbeats 4000000 in
set_option maxRecDepth 100000 in
theorem b_o_X12_whoText {p : Program} {l : Launch} {e : Env} {s : State} {m : MethodId} {args : Array Value} {below : List Frame} {meth : Method} {c : Code} {E : cE} {A : Nat → Prop} {r : Nat → Nat} {mc ms : Nat} {z : Int × St} {N : Nat} {D9 : Nat} {fo_whoAnd : (St → Option (Int × St))} (ho_whoAnd : ∀ (t : St) (z : Int × St), fo_whoAnd t = some z → cM l E yX12_whoAnd cX12_whoAnd 1 (some .boolean) (rmS_whoText D9) [.ref (r 200)] (gW E r shM t) (gqI E (gW E r shM) z)) {t : St} (X : gX p s m meth c cX12_whoText 1 (some .boolean) yX12_whoText args E A) (h : o_X12_whoText N fo_whoAnd t = some z) : gP p l e (rmS_whoText (D9 + 1)) s m args below meth c E A 1 (MQ below ((gqI E (gW E r shM) z) A) args s mc ms A) (gW E r shM) 0 [(0, .ref (r 200))] [] t := by
  unfold o_X12_whoText at h
  refine g_aload_n X dX12_whoText_0 0 rfl ?_
  refine g_callI (rest := []) X (fun u9 h9 => ho_whoAnd t u9 h9) yy_X12_whoAnd yi_X12_whoAnd wdM_RX12_413 0 12 (gW_at oM) rfl rfl rfl (Nat.le_of_ble_eq_true rfl) dX12_whoText_1 ⟨by show D9 + 11 + 1 ≤ D9 + 1 + 11; omega, by show 8 + (1 + 11) + (60 * D9 + 310) ≤ 60 * (D9 + 1) + 310; omega⟩ ⟨rfl, rfl⟩ h (fun v2 t1 h => ?_)
  refine g_if_ne (tgt := 9) X dX12_whoText_4 (by decide) h (fun h => ?_) (fun h => ?_)
  · refine g_sub (lv' := [(0, .ref (r 200))]) [0] rfl (t_o_X12_whoText_L9 X ho_whoAnd (fun t11 h => ?_) N t1 h)
    · refine g_iconst X dX12_whoText_36 ?_
      exact g_zret X h dX12_whoText_37
  · refine g_iconst X dX12_whoText_7 ?_
    exact g_zret X h dX12_whoText_8
set_option maxHeartbeats 4000000 in
set_option maxRecDepth 100000 in
theorem cpo_X12_whoText (l : Launch) (E : cE) (r : Nat → Nat) (N : Nat) (D9 : Nat) (fo_whoAnd : (St → Option (Int × St))) (ho_whoAnd : ∀ (t : St) (z : Int × St), fo_whoAnd t = some z → cM l E yX12_whoAnd cX12_whoAnd 1 (some .boolean) (rmS_whoText D9) [.ref (r 200)] (gW E r shM t) (gqI E (gW E r shM) z)) (t : St) (z : Int × St) (h : o_X12_whoText N fo_whoAnd t = some z) : cM l E yX12_whoText cX12_whoText 1 (some .boolean) (rmS_whoText (D9 + 1)) [.ref (r 200)] (gW E r shM t) (gqI E (gW E r shM) z) := by
  refine g_of (w := gW E r shM) (by decide) (Nat.le_of_ble_eq_true rfl) ?_
  intro p e s m below meth c A X
  exact g_sub (lv' := [(0, .ref (r 200))]) [0] rfl (b_o_X12_whoText ho_whoAnd X h)
theorem dX12_whoAnd_0 : decode cX12_whoAnd 0 = .ok (.aload_n 0, 1) := by decide +kernel
theorem dX12_whoAnd_1 : decode cX12_whoAnd 1 = .ok (.invokevirtual 416, 3) := by decide +kernel
theorem dX12_whoAnd_4 : decode cX12_whoAnd 4 = .ok (.ifCond .ne 5, 3) := by decide +kernel
theorem dX12_whoAnd_7 : decode cX12_whoAnd 7 = .ok (.iconst 0, 1) := by decide +kernel
theorem dX12_whoAnd_8 : decode cX12_whoAnd 8 = .ok (.ireturn, 1) := by decide +kernel
theorem dX12_whoAnd_9 : decode cX12_whoAnd 9 = .ok (.aload_n 0, 1) := by decide +kernel
theorem dX12_whoAnd_10 : decode cX12_whoAnd 10 = .ok (.bipush 25, 2) := by decide +kernel
theorem dX12_whoAnd_12 : decode cX12_whoAnd 12 = .ok (.invokevirtual 326, 3) := by decide +kernel
theorem dX12_whoAnd_15 : decode cX12_whoAnd 15 = .ok (.ifCond .eq 21, 3) := by decide +kernel
theorem dX12_whoAnd_18 : decode cX12_whoAnd 18 = .ok (.aload_n 0, 1) := by decide +kernel
theorem dX12_whoAnd_19 : decode cX12_whoAnd 19 = .ok (.bipush 25, 2) := by decide +kernel
theorem dX12_whoAnd_21 : decode cX12_whoAnd 21 = .ok (.invokevirtual 378, 3) := by decide +kernel
theorem dX12_whoAnd_24 : decode cX12_whoAnd 24 = .ok (.ifCond .eq 10, 3) := by decide +kernel
theorem dX12_whoAnd_27 : decode cX12_whoAnd 27 = .ok (.aload_n 0, 1) := by decide +kernel
theorem dX12_whoAnd_28 : decode cX12_whoAnd 28 = .ok (.invokevirtual 416, 3) := by decide +kernel
theorem dX12_whoAnd_31 : decode cX12_whoAnd 31 = .ok (.ifCond .ne (-22), 3) := by decide +kernel
theorem dX12_whoAnd_34 : decode cX12_whoAnd 34 = .ok (.iconst 0, 1) := by decide +kernel
theorem dX12_whoAnd_35 : decode cX12_whoAnd 35 = .ok (.ireturn, 1) := by decide +kernel
theorem dX12_whoAnd_36 : decode cX12_whoAnd 36 = .ok (.iconst 1, 1) := by decide +kernel
theorem dX12_whoAnd_37 : decode cX12_whoAnd 37 = .ok (.ireturn, 1) := by decide +kernel
def o_X12_whoAnd_L9 (N : Nat) (fo_whoOne : (St → Option (Int × St))) (K4 : (St → Option (Int × St))) : Nat → St → Option (Int × St)
  | 0, _ => none
  | n9 + 1, t3 =>
    bdI (f_X12_isKey N 25 t3) fun v6 t5 =>
    cmpI v6 0 (if v6 = 0 then (K4 t5)
    else (bdI (f_X12_key N 25 t5) fun v8 t7 =>
    cmpI v8 0 (if v8 = 0 then (boI 0 (some (0, t7)))
    else (bdI (fo_whoOne t7) fun v10 t9 =>
    cmpI v10 0 (if v10 = 0 then (boI 0 (some (0, t9)))
    else (o_X12_whoAnd_L9 N fo_whoOne K4 n9 t9))))))
def o_X12_whoAnd (N : Nat) (fo_whoOne : (St → Option (Int × St))) (t : St) : Option (Int × St) :=
    bdI (fo_whoOne t) fun v2 t1 =>
    cmpI v2 0 (if v2 = 0 then (boI 0 (some (0, t1)))
    else (o_X12_whoAnd_L9 N fo_whoOne (fun (t11 : St) => boI 1 (some (1, t11))) N t1))
set_option maxHeartbeats 4000000 in
set_option maxRecDepth 100000 in
theorem t_o_X12_whoAnd_L9 {p : Program} {l : Launch} {e : Env} {s : State} {m : MethodId} {args : Array Value} {below : List Frame} {meth : Method} {c : Code} {E : cE} {A : Nat → Prop} {r : Nat → Nat} {mc ms : Nat} {z : Int × St} {N : Nat} {D9 : Nat} {fo_whoOne : (St → Option (Int × St))} {K4 : (St → Option (Int × St))} (X : gX p s m meth c cX12_whoAnd 1 (some .boolean) yX12_whoAnd args E A) (ho_whoOne : ∀ (t : St) (z : Int × St), fo_whoOne t = some z → cM l E yX12_whoOne cX12_whoOne 1 (some .boolean) (rmS_whoText D9) [.ref (r 200)] (gW E r shM t) (gqI E (gW E r shM) z)) (hK4 : ∀ (t9 : St), K4 t9 = some z → gP p l e (rmS_whoText (D9 + 1)) s m args below meth c E A 1 (MQ below ((gqI E (gW E r shM) z) A) args s mc ms A) (gW E r shM) 36 [] [] t9) : ∀ (n9 : Nat) (t3 : St), o_X12_whoAnd_L9 N fo_whoOne K4 n9 t3 = some z → gP p l e (rmS_whoText (D9 + 1)) s m args below meth c E A 1 (MQ below ((gqI E (gW E r shM) z) A) args s mc ms A) (gW E r shM) 9 [(0, .ref (r 200))] [] t3 := by
  intro n9
  induction n9 with
  | zero => intro t3 h; cases h
  | succ n9 ih =>
    intro t3 h
    unfold o_X12_whoAnd_L9 at h
    refine g_aload_n X dX12_whoAnd_9 0 rfl ?_
    refine g_bipush X dX12_whoAnd_10 (by decide) ?_
    refine g_callI (rest := []) X (fun u9 h9 => cp_X12_isKey l E r N 25 t3 u9 h9) yy_X12_isKey yi_X12_isKey wdM_RX12_326 0 12 (gW_at oM) rfl rfl rfl (Nat.le_of_ble_eq_true rfl) dX12_whoAnd_12 ⟨by show 0 + 1 ≤ D9 + 1 + 11; omega, by show 8 + (2 + 11) + 0 ≤ 60 * (D9 + 1) + 310; omega⟩ ⟨rfl, rfl⟩ h (fun v6 t5 h => ?_)
    refine g_if_eq (tgt := 36) X dX12_whoAnd_15 (by decide) h (fun h => ?_) (fun h => ?_)
    · exact g_sub (lv' := []) [] rfl (hK4 t5 h)
    · refine g_aload_n X dX12_whoAnd_18 0 rfl ?_
      refine g_bipush X dX12_whoAnd_19 (by decide) ?_
      refine g_callI (rest := []) X (fun u9 h9 => cp_X12_key l E r N 25 t5 u9 h9) yy_X12_key yi_X12_key wdM_RX12_378 0 12 (gW_at oM) rfl rfl rfl (Nat.le_of_ble_eq_true rfl) dX12_whoAnd_21 ⟨by show 9 + 1 ≤ D9 + 1 + 11; omega, by show 8 + (2 + 11) + 268 ≤ 60 * (D9 + 1) + 310; omega⟩ ⟨rfl, rfl⟩ h (fun v8 t7 h => ?_)
      refine g_if_eq (tgt := 34) X dX12_whoAnd_24 (by decide) h (fun h => ?_) (fun h => ?_)
      · refine g_iconst X dX12_whoAnd_34 ?_
        exact g_zret X h dX12_whoAnd_35
      · refine g_aload_n X dX12_whoAnd_27 0 rfl ?_
        refine g_callI (rest := []) X (fun u9 h9 => ho_whoOne t7 u9 h9) yy_X12_whoOne yi_X12_whoOne wdM_RX12_416 0 12 (gW_at oM) rfl rfl rfl (Nat.le_of_ble_eq_true rfl) dX12_whoAnd_28 ⟨by show D9 + 11 + 1 ≤ D9 + 1 + 11; omega, by show 8 + (1 + 11) + (60 * D9 + 310) ≤ 60 * (D9 + 1) + 310; omega⟩ ⟨rfl, rfl⟩ h (fun v10 t9 h => ?_)
        refine g_if_ne (tgt := 9) X dX12_whoAnd_31 (by decide) h (fun h => ?_) (fun h => ?_)
        · exact g_sub (lv' := [(0, .ref (r 200))]) [0] rfl (ih t9 h)
        · refine g_iconst X dX12_whoAnd_34 ?_
          exact g_zret X h dX12_whoAnd_35
set_option maxHeartbeats 4000000 in
set_option maxRecDepth 100000 in
theorem b_o_X12_whoAnd {p : Program} {l : Launch} {e : Env} {s : State} {m : MethodId} {args : Array Value} {below : List Frame} {meth : Method} {c : Code} {E : cE} {A : Nat → Prop} {r : Nat → Nat} {mc ms : Nat} {z : Int × St} {N : Nat} {D9 : Nat} {fo_whoOne : (St → Option (Int × St))} (ho_whoOne : ∀ (t : St) (z : Int × St), fo_whoOne t = some z → cM l E yX12_whoOne cX12_whoOne 1 (some .boolean) (rmS_whoText D9) [.ref (r 200)] (gW E r shM t) (gqI E (gW E r shM) z)) {t : St} (X : gX p s m meth c cX12_whoAnd 1 (some .boolean) yX12_whoAnd args E A) (h : o_X12_whoAnd N fo_whoOne t = some z) : gP p l e (rmS_whoText (D9 + 1)) s m args below meth c E A 1 (MQ below ((gqI E (gW E r shM) z) A) args s mc ms A) (gW E r shM) 0 [(0, .ref (r 200))] [] t := by
  unfold o_X12_whoAnd at h
  refine g_aload_n X dX12_whoAnd_0 0 rfl ?_
  refine g_callI (rest := []) X (fun u9 h9 => ho_whoOne t u9 h9) yy_X12_whoOne yi_X12_whoOne wdM_RX12_416 0 12 (gW_at oM) rfl rfl rfl (Nat.le_of_ble_eq_true rfl) dX12_whoAnd_1 ⟨by show D9 + 11 + 1 ≤ D9 + 1 + 11; omega, by show 8 + (1 + 11) + (60 * D9 + 310) ≤ 60 * (D9 + 1) + 310; omega⟩ ⟨rfl, rfl⟩ h (fun v2 t1 h => ?_)
  refine g_if_ne (tgt := 9) X dX12_whoAnd_4 (by decide) h (fun h => ?_) (fun h => ?_)
  · refine g_sub (lv' := [(0, .ref (r 200))]) [0] rfl (t_o_X12_whoAnd_L9 X ho_whoOne (fun t11 h => ?_) N t1 h)
    · refine g_iconst X dX12_whoAnd_36 ?_
      exact g_zret X h dX12_whoAnd_37
  · refine g_iconst X dX12_whoAnd_7 ?_
    exact g_zret X h dX12_whoAnd_8
set_option maxHeartbeats 4000000 in
set_option maxRecDepth 100000 in
theorem cpo_X12_whoAnd (l : Launch) (E : cE) (r : Nat → Nat) (N : Nat) (D9 : Nat) (fo_whoOne : (St → Option (Int × St))) (ho_whoOne : ∀ (t : St) (z : Int × St), fo_whoOne t = some z → cM l E yX12_whoOne cX12_whoOne 1 (some .boolean) (rmS_whoText D9) [.ref (r 200)] (gW E r shM t) (gqI E (gW E r shM) z)) (t : St) (z : Int × St) (h : o_X12_whoAnd N fo_whoOne t = some z) : cM l E yX12_whoAnd cX12_whoAnd 1 (some .boolean) (rmS_whoText (D9 + 1)) [.ref (r 200)] (gW E r shM t) (gqI E (gW E r shM) z) := by
  refine g_of (w := gW E r shM) (by decide) (Nat.le_of_ble_eq_true rfl) ?_
  intro p e s m below meth c A X
  exact g_sub (lv' := [(0, .ref (r 200))]) [0] rfl (b_o_X12_whoAnd ho_whoOne X h)
theorem dX12_whoOne_0 : decode cX12_whoOne 0 = .ok (.aload_n 0, 1) := by decide +kernel
theorem dX12_whoOne_1 : decode cX12_whoOne 1 = .ok (.bipush 40, 2) := by decide +kernel
theorem dX12_whoOne_3 : decode cX12_whoOne 3 = .ok (.invokevirtual 332, 3) := by decide +kernel
theorem dX12_whoOne_6 : decode cX12_whoOne 6 = .ok (.ifCond .eq 34, 3) := by decide +kernel
theorem dX12_whoOne_9 : decode cX12_whoOne 9 = .ok (.aload_n 0, 1) := by decide +kernel
theorem dX12_whoOne_10 : decode cX12_whoOne 10 = .ok (.bipush 40, 2) := by decide +kernel
theorem dX12_whoOne_12 : decode cX12_whoOne 12 = .ok (.invokevirtual 398, 3) := by decide +kernel
theorem dX12_whoOne_15 : decode cX12_whoOne 15 = .ok (.ifCond .eq 23, 3) := by decide +kernel
theorem dX12_whoOne_18 : decode cX12_whoOne 18 = .ok (.aload_n 0, 1) := by decide +kernel
theorem dX12_whoOne_19 : decode cX12_whoOne 19 = .ok (.invokevirtual 410, 3) := by decide +kernel
theorem dX12_whoOne_22 : decode cX12_whoOne 22 = .ok (.ifCond .eq 16, 3) := by decide +kernel
theorem dX12_whoOne_25 : decode cX12_whoOne 25 = .ok (.aload_n 0, 1) := by decide +kernel
theorem dX12_whoOne_26 : decode cX12_whoOne 26 = .ok (.bipush 41, 2) := by decide +kernel
theorem dX12_whoOne_28 : decode cX12_whoOne 28 = .ok (.invokevirtual 404, 3) := by decide +kernel
theorem dX12_whoOne_31 : decode cX12_whoOne 31 = .ok (.ifCond .eq 7, 3) := by decide +kernel
theorem dX12_whoOne_34 : decode cX12_whoOne 34 = .ok (.iconst 1, 1) := by decide +kernel
theorem dX12_whoOne_35 : decode cX12_whoOne 35 = .ok (.goto 4, 3) := by decide +kernel
theorem dX12_whoOne_38 : decode cX12_whoOne 38 = .ok (.iconst 0, 1) := by decide +kernel
theorem dX12_whoOne_39 : decode cX12_whoOne 39 = .ok (.ireturn, 1) := by decide +kernel
theorem dX12_whoOne_40 : decode cX12_whoOne 40 = .ok (.aload_n 0, 1) := by decide +kernel
theorem dX12_whoOne_41 : decode cX12_whoOne 41 = .ok (.getfield 278, 3) := by decide +kernel
theorem dX12_whoOne_44 : decode cX12_whoOne 44 = .ok (.iconst 1, 1) := by decide +kernel
theorem dX12_whoOne_45 : decode cX12_whoOne 45 = .ok (.if_icmp .eq 9, 3) := by decide +kernel
theorem dX12_whoOne_48 : decode cX12_whoOne 48 = .ok (.aload_n 0, 1) := by decide +kernel
theorem dX12_whoOne_49 : decode cX12_whoOne 49 = .ok (.iconst 1, 1) := by decide +kernel
theorem dX12_whoOne_50 : decode cX12_whoOne 50 = .ok (.invokevirtual 317, 3) := by decide +kernel
theorem dX12_whoOne_53 : decode cX12_whoOne 53 = .ok (.ireturn, 1) := by decide +kernel
theorem dX12_whoOne_54 : decode cX12_whoOne 54 = .ok (.aload_n 0, 1) := by decide +kernel
theorem dX12_whoOne_55 : decode cX12_whoOne 55 = .ok (.getfield 294, 3) := by decide +kernel
theorem dX12_whoOne_58 : decode cX12_whoOne 58 = .ok (.tableswitch 270 14 26 #[96, 96, 96, 96, 96, 105, 130, 155, 205, 228, 270, 270, 66], 66) := by decide +kernel
theorem dX12_whoOne_124 : decode cX12_whoOne 124 = .ok (.aload_n 0, 1) := by decide +kernel
theorem dX12_whoOne_125 : decode cX12_whoOne 125 = .ok (.bipush 26, 2) := by decide +kernel
theorem dX12_whoOne_127 : decode cX12_whoOne 127 = .ok (.invokevirtual 341, 3) := by decide +kernel
theorem dX12_whoOne_130 : decode cX12_whoOne 130 = .ok (.ifCond .eq 10, 3) := by decide +kernel
theorem dX12_whoOne_133 : decode cX12_whoOne 133 = .ok (.aload_n 0, 1) := by decide +kernel
theorem dX12_whoOne_134 : decode cX12_whoOne 134 = .ok (.invokevirtual 416, 3) := by decide +kernel
theorem dX12_whoOne_137 : decode cX12_whoOne 137 = .ok (.ifCond .ne 5, 3) := by decide +kernel
theorem dX12_whoOne_140 : decode cX12_whoOne 140 = .ok (.iconst 0, 1) := by decide +kernel
theorem dX12_whoOne_141 : decode cX12_whoOne 141 = .ok (.ireturn, 1) := by decide +kernel
theorem dX12_whoOne_142 : decode cX12_whoOne 142 = .ok (.aload_n 0, 1) := by decide +kernel
theorem dX12_whoOne_143 : decode cX12_whoOne 143 = .ok (.dup, 1) := by decide +kernel
theorem dX12_whoOne_144 : decode cX12_whoOne 144 = .ok (.getfield 338, 3) := by decide +kernel
theorem dX12_whoOne_147 : decode cX12_whoOne 147 = .ok (.iconst 1, 1) := by decide +kernel
theorem dX12_whoOne_148 : decode cX12_whoOne 148 = .ok (.isub, 1) := by decide +kernel
theorem dX12_whoOne_149 : decode cX12_whoOne 149 = .ok (.putfield 338, 3) := by decide +kernel
theorem dX12_whoOne_152 : decode cX12_whoOne 152 = .ok (.iconst 1, 1) := by decide +kernel
theorem dX12_whoOne_153 : decode cX12_whoOne 153 = .ok (.ireturn, 1) := by decide +kernel
theorem dX12_whoOne_154 : decode cX12_whoOne 154 = .ok (.aload_n 0, 1) := by decide +kernel
theorem dX12_whoOne_155 : decode cX12_whoOne 155 = .ok (.aload_n 0, 1) := by decide +kernel
theorem dX12_whoOne_156 : decode cX12_whoOne 156 = .ok (.getfield 294, 3) := by decide +kernel
theorem dX12_whoOne_159 : decode cX12_whoOne 159 = .ok (.invokevirtual 329, 3) := by decide +kernel
theorem dX12_whoOne_162 : decode cX12_whoOne 162 = .ok (.ireturn, 1) := by decide +kernel
theorem dX12_whoOne_163 : decode cX12_whoOne 163 = .ok (.aload_n 0, 1) := by decide +kernel
theorem dX12_whoOne_164 : decode cX12_whoOne 164 = .ok (.bipush 19, 2) := by decide +kernel
theorem dX12_whoOne_166 : decode cX12_whoOne 166 = .ok (.invokevirtual 329, 3) := by decide +kernel
theorem dX12_whoOne_169 : decode cX12_whoOne 169 = .ok (.ifCond .eq 17, 3) := by decide +kernel
theorem dX12_whoOne_172 : decode cX12_whoOne 172 = .ok (.aload_n 0, 1) := by decide +kernel
theorem dX12_whoOne_173 : decode cX12_whoOne 173 = .ok (.iconst 0, 1) := by decide +kernel
theorem dX12_whoOne_174 : decode cX12_whoOne 174 = .ok (.bipush 31, 2) := by decide +kernel
theorem dX12_whoOne_176 : decode cX12_whoOne 176 = .ok (.invokevirtual 384, 3) := by decide +kernel
theorem dX12_whoOne_179 : decode cX12_whoOne 179 = .ok (.ifCond .eq 7, 3) := by decide +kernel
theorem dX12_whoOne_182 : decode cX12_whoOne 182 = .ok (.iconst 1, 1) := by decide +kernel
theorem dX12_whoOne_183 : decode cX12_whoOne 183 = .ok (.goto 4, 3) := by decide +kernel
theorem dX12_whoOne_186 : decode cX12_whoOne 186 = .ok (.iconst 0, 1) := by decide +kernel
theorem dX12_whoOne_187 : decode cX12_whoOne 187 = .ok (.ireturn, 1) := by decide +kernel
theorem dX12_whoOne_188 : decode cX12_whoOne 188 = .ok (.aload_n 0, 1) := by decide +kernel
theorem dX12_whoOne_189 : decode cX12_whoOne 189 = .ok (.bipush 20, 2) := by decide +kernel
theorem dX12_whoOne_191 : decode cX12_whoOne 191 = .ok (.invokevirtual 329, 3) := by decide +kernel
theorem dX12_whoOne_194 : decode cX12_whoOne 194 = .ok (.ifCond .eq 17, 3) := by decide +kernel
theorem dX12_whoOne_197 : decode cX12_whoOne 197 = .ok (.aload_n 0, 1) := by decide +kernel
theorem dX12_whoOne_198 : decode cX12_whoOne 198 = .ok (.iconst 0, 1) := by decide +kernel
theorem dX12_whoOne_199 : decode cX12_whoOne 199 = .ok (.bipush 63, 2) := by decide +kernel
theorem dX12_whoOne_201 : decode cX12_whoOne 201 = .ok (.invokevirtual 384, 3) := by decide +kernel
theorem dX12_whoOne_204 : decode cX12_whoOne 204 = .ok (.ifCond .eq 7, 3) := by decide +kernel
theorem dX12_whoOne_207 : decode cX12_whoOne 207 = .ok (.iconst 1, 1) := by decide +kernel
theorem dX12_whoOne_208 : decode cX12_whoOne 208 = .ok (.goto 4, 3) := by decide +kernel
theorem dX12_whoOne_211 : decode cX12_whoOne 211 = .ok (.iconst 0, 1) := by decide +kernel
theorem dX12_whoOne_212 : decode cX12_whoOne 212 = .ok (.ireturn, 1) := by decide +kernel
theorem dX12_whoOne_213 : decode cX12_whoOne 213 = .ok (.aload_n 0, 1) := by decide +kernel
theorem dX12_whoOne_214 : decode cX12_whoOne 214 = .ok (.bipush 21, 2) := by decide +kernel
theorem dX12_whoOne_216 : decode cX12_whoOne 216 = .ok (.invokevirtual 329, 3) := by decide +kernel
theorem dX12_whoOne_219 : decode cX12_whoOne 219 = .ok (.ifCond .ne 5, 3) := by decide +kernel
theorem dX12_whoOne_222 : decode cX12_whoOne 222 = .ok (.iconst 0, 1) := by decide +kernel
theorem dX12_whoOne_223 : decode cX12_whoOne 223 = .ok (.ireturn, 1) := by decide +kernel
theorem dX12_whoOne_224 : decode cX12_whoOne 224 = .ok (.aload_n 0, 1) := by decide +kernel
theorem dX12_whoOne_225 : decode cX12_whoOne 225 = .ok (.getfield 278, 3) := by decide +kernel
theorem dX12_whoOne_228 : decode cX12_whoOne 228 = .ok (.iconst 1, 1) := by decide +kernel
theorem dX12_whoOne_229 : decode cX12_whoOne 229 = .ok (.if_icmp .ne 28, 3) := by decide +kernel
theorem dX12_whoOne_232 : decode cX12_whoOne 232 = .ok (.aload_n 0, 1) := by decide +kernel
theorem dX12_whoOne_233 : decode cX12_whoOne 233 = .ok (.getfield 294, 3) := by decide +kernel
theorem dX12_whoOne_236 : decode cX12_whoOne 236 = .ok (.bipush 31, 2) := by decide +kernel
theorem dX12_whoOne_238 : decode cX12_whoOne 238 = .ok (.bipush 34, 2) := by decide +kernel
theorem dX12_whoOne_240 : decode cX12_whoOne 240 = .ok (.invokestatic 227, 3) := by decide +kernel
theorem dX12_whoOne_243 : decode cX12_whoOne 243 = .ok (.ifCond .eq 14, 3) := by decide +kernel
theorem dX12_whoOne_246 : decode cX12_whoOne 246 = .ok (.aload_n 0, 1) := by decide +kernel
theorem dX12_whoOne_247 : decode cX12_whoOne 247 = .ok (.aload_n 0, 1) := by decide +kernel
theorem dX12_whoOne_248 : decode cX12_whoOne 248 = .ok (.getfield 294, 3) := by decide +kernel
theorem dX12_whoOne_251 : decode cX12_whoOne 251 = .ok (.invokevirtual 329, 3) := by decide +kernel
theorem dX12_whoOne_254 : decode cX12_whoOne 254 = .ok (.goto 8, 3) := by decide +kernel
theorem dX12_whoOne_257 : decode cX12_whoOne 257 = .ok (.aload_n 0, 1) := by decide +kernel
theorem dX12_whoOne_258 : decode cX12_whoOne 258 = .ok (.iconst 1, 1) := by decide +kernel
theorem dX12_whoOne_259 : decode cX12_whoOne 259 = .ok (.invokevirtual 317, 3) := by decide +kernel
theorem dX12_whoOne_262 : decode cX12_whoOne 262 = .ok (.ireturn, 1) := by decide +kernel
theorem dX12_whoOne_263 : decode cX12_whoOne 263 = .ok (.aload_n 0, 1) := by decide +kernel
theorem dX12_whoOne_264 : decode cX12_whoOne 264 = .ok (.bipush 22, 2) := by decide +kernel
theorem dX12_whoOne_266 : decode cX12_whoOne 266 = .ok (.invokevirtual 329, 3) := by decide +kernel
theorem dX12_whoOne_269 : decode cX12_whoOne 269 = .ok (.ifCond .eq 15, 3) := by decide +kernel
theorem dX12_whoOne_272 : decode cX12_whoOne 272 = .ok (.aload_n 0, 1) := by decide +kernel
theorem dX12_whoOne_273 : decode cX12_whoOne 273 = .ok (.iconst 0, 1) := by decide +kernel
theorem dX12_whoOne_274 : decode cX12_whoOne 274 = .ok (.invokevirtual 381, 3) := by decide +kernel
theorem dX12_whoOne_277 : decode cX12_whoOne 277 = .ok (.ifCond .eq 7, 3) := by decide +kernel
theorem dX12_whoOne_280 : decode cX12_whoOne 280 = .ok (.iconst 1, 1) := by decide +kernel
theorem dX12_whoOne_281 : decode cX12_whoOne 281 = .ok (.goto 4, 3) := by decide +kernel
theorem dX12_whoOne_284 : decode cX12_whoOne 284 = .ok (.iconst 0, 1) := by decide +kernel
theorem dX12_whoOne_285 : decode cX12_whoOne 285 = .ok (.ireturn, 1) := by decide +kernel
theorem dX12_whoOne_286 : decode cX12_whoOne 286 = .ok (.aload_n 0, 1) := by decide +kernel
theorem dX12_whoOne_287 : decode cX12_whoOne 287 = .ok (.bipush 23, 2) := by decide +kernel
theorem dX12_whoOne_289 : decode cX12_whoOne 289 = .ok (.invokevirtual 329, 3) := by decide +kernel
theorem dX12_whoOne_292 : decode cX12_whoOne 292 = .ok (.ifCond .eq 34, 3) := by decide +kernel
theorem dX12_whoOne_295 : decode cX12_whoOne 295 = .ok (.aload_n 0, 1) := by decide +kernel
theorem dX12_whoOne_296 : decode cX12_whoOne 296 = .ok (.iconst 0, 1) := by decide +kernel
theorem dX12_whoOne_297 : decode cX12_whoOne 297 = .ok (.invokevirtual 381, 3) := by decide +kernel
theorem dX12_whoOne_300 : decode cX12_whoOne 300 = .ok (.ifCond .eq 26, 3) := by decide +kernel
theorem dX12_whoOne_303 : decode cX12_whoOne 303 = .ok (.aload_n 0, 1) := by decide +kernel
theorem dX12_whoOne_304 : decode cX12_whoOne 304 = .ok (.iconst 0, 1) := by decide +kernel
theorem dX12_whoOne_305 : decode cX12_whoOne 305 = .ok (.aload_n 0, 1) := by decide +kernel
theorem dX12_whoOne_306 : decode cX12_whoOne 306 = .ok (.getfield 26, 3) := by decide +kernel
theorem dX12_whoOne_309 : decode cX12_whoOne 309 = .ok (.aload_n 0, 1) := by decide +kernel
theorem dX12_whoOne_310 : decode cX12_whoOne 310 = .ok (.getfield 359, 3) := by decide +kernel
theorem dX12_whoOne_313 : decode cX12_whoOne 313 = .ok (.iaload, 1) := by decide +kernel
theorem dX12_whoOne_314 : decode cX12_whoOne 314 = .ok (.iconst 1, 1) := by decide +kernel
theorem dX12_whoOne_315 : decode cX12_whoOne 315 = .ok (.isub, 1) := by decide +kernel
theorem dX12_whoOne_316 : decode cX12_whoOne 316 = .ok (.invokevirtual 384, 3) := by decide +kernel
theorem dX12_whoOne_319 : decode cX12_whoOne 319 = .ok (.ifCond .eq 7, 3) := by decide +kernel
theorem dX12_whoOne_322 : decode cX12_whoOne 322 = .ok (.iconst 1, 1) := by decide +kernel
theorem dX12_whoOne_323 : decode cX12_whoOne 323 = .ok (.goto 4, 3) := by decide +kernel
theorem dX12_whoOne_326 : decode cX12_whoOne 326 = .ok (.iconst 0, 1) := by decide +kernel
theorem dX12_whoOne_327 : decode cX12_whoOne 327 = .ok (.ireturn, 1) := by decide +kernel
theorem dX12_whoOne_328 : decode cX12_whoOne 328 = .ok (.aload_n 0, 1) := by decide +kernel
theorem dX12_whoOne_329 : decode cX12_whoOne 329 = .ok (.iconst 1, 1) := by decide +kernel
theorem dX12_whoOne_330 : decode cX12_whoOne 330 = .ok (.invokevirtual 317, 3) := by decide +kernel
theorem dX12_whoOne_333 : decode cX12_whoOne 333 = .ok (.ireturn, 1) := by decide +kernel
def o_X12_whoOne (N : Nat) (fo_whoText : (St → Option (Int × St))) (fo_whoOne : (St → Option (Int × St))) (t : St) : Option (Int × St) :=
    bdI (f_X12_isSign N 40 t) fun v2 t1 =>
    cmpI v2 0 (if v2 = 0 then (lt1 (t1.1 200 3) fun v3 =>
    cmpI v3 1 (if v3 = 1 then (lt1 (t1.1 200 5) fun v4 =>
    rnI v4 (if v4 = 14 then (lt1 (t1.1 200 5) fun v5 =>
    bdI (f_X12_takes N v5 t1) fun v7 t6 =>
    boI v7 (some (v7, t6)))
    else (if v4 = 15 then (lt1 (t1.1 200 5) fun v8 =>
    bdI (f_X12_takes N v8 t1) fun v10 t9 =>
    boI v10 (some (v10, t9)))
    else (if v4 = 16 then (lt1 (t1.1 200 5) fun v11 =>
    bdI (f_X12_takes N v11 t1) fun v13 t12 =>
    boI v13 (some (v13, t12)))
    else (if v4 = 17 then (lt1 (t1.1 200 5) fun v14 =>
    bdI (f_X12_takes N v14 t1) fun v16 t15 =>
    boI v16 (some (v16, t15)))
    else (if v4 = 18 then (lt1 (t1.1 200 5) fun v17 =>
    bdI (f_X12_takes N v17 t1) fun v19 t18 =>
    boI v19 (some (v19, t18)))
    else (if v4 = 19 then (bdI (f_X12_takes N 19 t1) fun v21 t20 =>
    cmpI v21 0 (if v21 = 0 then (boI 0 (some (0, t20)))
    else (bdI (f_X12_number N 0 31 t20) fun v23 t22 =>
    cmpI v23 0 (if v23 = 0 then (boI 0 (some (0, t22)))
    else (boI 1 (some (1, t22)))))))
    else (if v4 = 20 then (bdI (f_X12_takes N 20 t1) fun v25 t24 =>
    cmpI v25 0 (if v25 = 0 then (boI 0 (some (0, t24)))
    else (bdI (f_X12_number N 0 63 t24) fun v27 t26 =>
    cmpI v27 0 (if v27 = 0 then (boI 0 (some (0, t26)))
    else (boI 1 (some (1, t26)))))))
    else (if v4 = 21 then (bdI (f_X12_takes N 21 t1) fun v29 t28 =>
    cmpI v29 0 (if v29 = 0 then (boI 0 (some (0, t28)))
    else (lt1 (t28.1 200 3) fun v30 =>
    jn1 (fun (t31 : St) => bdI (f_X12_wrong N 1 t31) fun v34 t33 =>
    boI v34 (some (v34, t33))) fun J32 =>
    cmpI v30 1 (if v30 = 1 then (lt1 (t28.1 200 5) fun v35 =>
    bdI (f_X12_in N v35 31 34 t28) fun v37 t36 =>
    cmpI v37 0 (if v37 = 0 then (J32 t36)
    else (lt1 (t36.1 200 5) fun v38 =>
    bdI (f_X12_takes N v38 t36) fun v40 t39 =>
    boI v40 (some (v40, t39)))))
    else (J32 t28)))))
    else (if v4 = 22 then (bdI (f_X12_takes N 22 t1) fun v42 t41 =>
    cmpI v42 0 (if v42 = 0 then (boI 0 (some (0, t41)))
    else (bdI (f_X12_knownName N 0 t41) fun v44 t43 =>
    cmpI v44 0 (if v44 = 0 then (boI 0 (some (0, t43)))
    else (boI 1 (some (1, t43)))))))
    else (if v4 = 23 then (bdI (f_X12_takes N 23 t1) fun v46 t45 =>
    cmpI v46 0 (if v46 = 0 then (boI 0 (some (0, t45)))
    else (bdI (f_X12_knownName N 0 t45) fun v48 t47 =>
    cmpI v48 0 (if v48 = 0 then (boI 0 (some (0, t47)))
    else (lt1 (t47.1 200 113) fun v49 =>
    ixI v49 40 (lt1 (t47.1 18 v49.toNat) fun v50 =>
    bdI (f_X12_number N 0 (v50 - 1) t47) fun v52 t51 =>
    cmpI v52 0 (if v52 = 0 then (boI 0 (some (0, t51)))
    else (boI 1 (some (1, t51))))))))))
    else (if v4 = 24 then (bdI (f_X12_wrong N 1 t1) fun v54 t53 =>
    boI v54 (some (v54, t53)))
    else (if v4 = 25 then (bdI (f_X12_wrong N 1 t1) fun v56 t55 =>
    boI v56 (some (v56, t55)))
    else (if v4 = 26 then (bdI (f_X12_opens N 26 t1) fun v58 t57 =>
    cmpI v58 0 (if v58 = 0 then (boI 0 (some (0, t57)))
    else (bdI (fo_whoOne t57) fun v60 t59 =>
    cmpI v60 0 (if v60 = 0 then (boI 0 (some (0, t59)))
    else (lt1 (t59.1 200 35) fun v61 =>
    lt1 (pI t59 200 35 (v61 - 1)) fun t62 =>
    boI 1 (some (1, t62)))))))
    else (bdI (f_X12_wrong N 1 t1) fun v64 t63 =>
    boI v64 (some (v64, t63)))))))))))))))))
    else (bdI (f_X12_wrong N 1 t1) fun v66 t65 =>
    boI v66 (some (v66, t65)))))
    else (bdI (f_X12_opensBy N 40 t1) fun v68 t67 =>
    cmpI v68 0 (if v68 = 0 then (boI 0 (some (0, t67)))
    else (bdI (fo_whoText t67) fun v70 t69 =>
    cmpI v70 0 (if v70 = 0 then (boI 0 (some (0, t69)))
    else (bdI (f_X12_closesBy N 41 t69) fun v72 t71 =>
    cmpI v72 0 (if v72 = 0 then (boI 0 (some (0, t71)))
    else (boI 1 (some (1, t71))))))))))
set_option maxHeartbeats 4000000 in
set_option maxRecDepth 100000 in
theorem b_o_X12_whoOne {p : Program} {l : Launch} {e : Env} {s : State} {m : MethodId} {args : Array Value} {below : List Frame} {meth : Method} {c : Code} {E : cE} {A : Nat → Prop} {r : Nat → Nat} {mc ms : Nat} {z : Int × St} {N : Nat} {D9 : Nat} {fo_whoText : (St → Option (Int × St))} {fo_whoOne : (St → Option (Int × St))} (ho_whoText : ∀ (t : St) (z : Int × St), fo_whoText t = some z → cM l E yX12_whoText cX12_whoText 1 (some .boolean) (rmS_whoText D9) [.ref (r 200)] (gW E r shM t) (gqI E (gW E r shM) z)) (ho_whoOne : ∀ (t : St) (z : Int × St), fo_whoOne t = some z → cM l E yX12_whoOne cX12_whoOne 1 (some .boolean) (rmS_whoText D9) [.ref (r 200)] (gW E r shM t) (gqI E (gW E r shM) z)) {t : St} (X : gX p s m meth c cX12_whoOne 1 (some .boolean) yX12_whoOne args E A) (h : o_X12_whoOne N fo_whoText fo_whoOne t = some z) : gP p l e (rmS_whoText (D9 + 1)) s m args below meth c E A 1 (MQ below ((gqI E (gW E r shM) z) A) args s mc ms A) (gW E r shM) 0 [(0, .ref (r 200))] [] t := by
  unfold o_X12_whoOne at h
  refine g_aload_n X dX12_whoOne_0 0 rfl ?_
  refine g_bipush X dX12_whoOne_1 (by decide) ?_
  refine g_callI (rest := []) X (fun u9 h9 => cp_X12_isSign l E r N 40 t u9 h9) yy_X12_isSign yi_X12_isSign wdM_RX12_332 0 12 (gW_at oM) rfl rfl rfl (Nat.le_of_ble_eq_true rfl) dX12_whoOne_3 ⟨by show 0 + 1 ≤ D9 + 1 + 11; omega, by show 8 + (2 + 11) + 0 ≤ 60 * (D9 + 1) + 310; omega⟩ ⟨rfl, rfl⟩ h (fun v2 t1 h => ?_)
  refine g_if_eq (tgt := 40) X dX12_whoOne_6 (by decide) h (fun h => ?_) (fun h => ?_)
  · refine g_aload_n X dX12_whoOne_40 0 rfl ?_
    refine g_getI X fM_3 rfl dX12_whoOne_41 h (fun v3 h => ?_)
    refine g_iconst X dX12_whoOne_44 ?_
    refine g_icmp_eq (tgt := 54) X dX12_whoOne_45 (by decide) h (fun h => ?_) (fun h => ?_)
    · refine g_aload_n X dX12_whoOne_54 0 rfl ?_
      refine g_getI X fM_5 rfl dX12_whoOne_55 h (fun v4 h => ?_)
      obtain ⟨hr9, h⟩ := rnI_some h
      by_cases e9_14 : v4 = 14
      · rw [if_pos e9_14] at h
        refine g_tableIn X (tgt := 154) (off := 96) dX12_whoOne_58 (k := 14) hr9 e9_14 (by decide) (by decide) rfl (by decide) ?_
        refine g_aload_n X dX12_whoOne_154 0 rfl ?_
        refine g_aload_n X dX12_whoOne_155 0 rfl ?_
        refine g_getI X fM_5 rfl dX12_whoOne_156 h (fun v5 h => ?_)
        refine g_callI (rest := []) X (fun u9 h9 => cp_X12_takes l E r N v5 t1 u9 h9) yy_X12_takes yi_X12_takes wdM_RX12_329 0 12 (gW_at oM) rfl rfl rfl (Nat.le_of_ble_eq_true rfl) dX12_whoOne_159 ⟨by show 8 + 1 ≤ D9 + 1 + 11; omega, by show 8 + (2 + 11) + 247 ≤ 60 * (D9 + 1) + 310; omega⟩ ⟨rfl, rfl⟩ h (fun v7 t6 h => ?_)
        exact g_zret X h dX12_whoOne_162
      · rw [if_neg e9_14] at h
        by_cases e9_15 : v4 = 15
        · rw [if_pos e9_15] at h
          refine g_tableIn X (tgt := 154) (off := 96) dX12_whoOne_58 (k := 15) hr9 e9_15 (by decide) (by decide) rfl (by decide) ?_
          refine g_aload_n X dX12_whoOne_154 0 rfl ?_
          refine g_aload_n X dX12_whoOne_155 0 rfl ?_
          refine g_getI X fM_5 rfl dX12_whoOne_156 h (fun v8 h => ?_)
          refine g_callI (rest := []) X (fun u9 h9 => cp_X12_takes l E r N v8 t1 u9 h9) yy_X12_takes yi_X12_takes wdM_RX12_329 0 12 (gW_at oM) rfl rfl rfl (Nat.le_of_ble_eq_true rfl) dX12_whoOne_159 ⟨by show 8 + 1 ≤ D9 + 1 + 11; omega, by show 8 + (2 + 11) + 247 ≤ 60 * (D9 + 1) + 310; omega⟩ ⟨rfl, rfl⟩ h (fun v10 t9 h => ?_)
          exact g_zret X h dX12_whoOne_162
        · rw [if_neg e9_15] at h
          by_cases e9_16 : v4 = 16
          · rw [if_pos e9_16] at h
            refine g_tableIn X (tgt := 154) (off := 96) dX12_whoOne_58 (k := 16) hr9 e9_16 (by decide) (by decide) rfl (by decide) ?_
            refine g_aload_n X dX12_whoOne_154 0 rfl ?_
            refine g_aload_n X dX12_whoOne_155 0 rfl ?_
            refine g_getI X fM_5 rfl dX12_whoOne_156 h (fun v11 h => ?_)
            refine g_callI (rest := []) X (fun u9 h9 => cp_X12_takes l E r N v11 t1 u9 h9) yy_X12_takes yi_X12_takes wdM_RX12_329 0 12 (gW_at oM) rfl rfl rfl (Nat.le_of_ble_eq_true rfl) dX12_whoOne_159 ⟨by show 8 + 1 ≤ D9 + 1 + 11; omega, by show 8 + (2 + 11) + 247 ≤ 60 * (D9 + 1) + 310; omega⟩ ⟨rfl, rfl⟩ h (fun v13 t12 h => ?_)
            exact g_zret X h dX12_whoOne_162
          · rw [if_neg e9_16] at h
            by_cases e9_17 : v4 = 17
            · rw [if_pos e9_17] at h
              refine g_tableIn X (tgt := 154) (off := 96) dX12_whoOne_58 (k := 17) hr9 e9_17 (by decide) (by decide) rfl (by decide) ?_
              refine g_aload_n X dX12_whoOne_154 0 rfl ?_
              refine g_aload_n X dX12_whoOne_155 0 rfl ?_
              refine g_getI X fM_5 rfl dX12_whoOne_156 h (fun v14 h => ?_)
              refine g_callI (rest := []) X (fun u9 h9 => cp_X12_takes l E r N v14 t1 u9 h9) yy_X12_takes yi_X12_takes wdM_RX12_329 0 12 (gW_at oM) rfl rfl rfl (Nat.le_of_ble_eq_true rfl) dX12_whoOne_159 ⟨by show 8 + 1 ≤ D9 + 1 + 11; omega, by show 8 + (2 + 11) + 247 ≤ 60 * (D9 + 1) + 310; omega⟩ ⟨rfl, rfl⟩ h (fun v16 t15 h => ?_)
              exact g_zret X h dX12_whoOne_162
            · rw [if_neg e9_17] at h
              by_cases e9_18 : v4 = 18
              · rw [if_pos e9_18] at h
                refine g_tableIn X (tgt := 154) (off := 96) dX12_whoOne_58 (k := 18) hr9 e9_18 (by decide) (by decide) rfl (by decide) ?_
                refine g_aload_n X dX12_whoOne_154 0 rfl ?_
                refine g_aload_n X dX12_whoOne_155 0 rfl ?_
                refine g_getI X fM_5 rfl dX12_whoOne_156 h (fun v17 h => ?_)
                refine g_callI (rest := []) X (fun u9 h9 => cp_X12_takes l E r N v17 t1 u9 h9) yy_X12_takes yi_X12_takes wdM_RX12_329 0 12 (gW_at oM) rfl rfl rfl (Nat.le_of_ble_eq_true rfl) dX12_whoOne_159 ⟨by show 8 + 1 ≤ D9 + 1 + 11; omega, by show 8 + (2 + 11) + 247 ≤ 60 * (D9 + 1) + 310; omega⟩ ⟨rfl, rfl⟩ h (fun v19 t18 h => ?_)
                exact g_zret X h dX12_whoOne_162
              · rw [if_neg e9_18] at h
                by_cases e9_19 : v4 = 19
                · rw [if_pos e9_19] at h
                  refine g_tableIn X (tgt := 163) (off := 105) dX12_whoOne_58 (k := 19) hr9 e9_19 (by decide) (by decide) rfl (by decide) ?_
                  refine g_aload_n X dX12_whoOne_163 0 rfl ?_
                  refine g_bipush X dX12_whoOne_164 (by decide) ?_
                  refine g_callI (rest := []) X (fun u9 h9 => cp_X12_takes l E r N 19 t1 u9 h9) yy_X12_takes yi_X12_takes wdM_RX12_329 0 12 (gW_at oM) rfl rfl rfl (Nat.le_of_ble_eq_true rfl) dX12_whoOne_166 ⟨by show 8 + 1 ≤ D9 + 1 + 11; omega, by show 8 + (2 + 11) + 247 ≤ 60 * (D9 + 1) + 310; omega⟩ ⟨rfl, rfl⟩ h (fun v21 t20 h => ?_)
                  refine g_if_eq (tgt := 186) X dX12_whoOne_169 (by decide) h (fun h => ?_) (fun h => ?_)
                  · refine g_iconst X dX12_whoOne_186 ?_
                    exact g_zret X h dX12_whoOne_187
                  · refine g_aload_n X dX12_whoOne_172 0 rfl ?_
                    refine g_iconst X dX12_whoOne_173 ?_
                    refine g_bipush X dX12_whoOne_174 (by decide) ?_
                    refine g_callI (rest := []) X (fun u9 h9 => cp_X12_number l E r N 0 31 t20 u9 h9) yy_X12_number yi_X12_number wdM_RX12_384 0 12 (gW_at oM) rfl rfl rfl (Nat.le_of_ble_eq_true rfl) dX12_whoOne_176 ⟨by show 9 + 1 ≤ D9 + 1 + 11; omega, by show 8 + (3 + 11) + 268 ≤ 60 * (D9 + 1) + 310; omega⟩ ⟨rfl, rfl⟩ h (fun v23 t22 h => ?_)
                    refine g_if_eq (tgt := 186) X dX12_whoOne_179 (by decide) h (fun h => ?_) (fun h => ?_)
                    · refine g_iconst X dX12_whoOne_186 ?_
                      exact g_zret X h dX12_whoOne_187
                    · refine g_iconst X dX12_whoOne_182 ?_
                      refine g_goto (tgt := 187) X dX12_whoOne_183 (by decide) ?_
                      exact g_zret X h dX12_whoOne_187
                · rw [if_neg e9_19] at h
                  by_cases e9_20 : v4 = 20
                  · rw [if_pos e9_20] at h
                    refine g_tableIn X (tgt := 188) (off := 130) dX12_whoOne_58 (k := 20) hr9 e9_20 (by decide) (by decide) rfl (by decide) ?_
                    refine g_aload_n X dX12_whoOne_188 0 rfl ?_
                    refine g_bipush X dX12_whoOne_189 (by decide) ?_
                    refine g_callI (rest := []) X (fun u9 h9 => cp_X12_takes l E r N 20 t1 u9 h9) yy_X12_takes yi_X12_takes wdM_RX12_329 0 12 (gW_at oM) rfl rfl rfl (Nat.le_of_ble_eq_true rfl) dX12_whoOne_191 ⟨by show 8 + 1 ≤ D9 + 1 + 11; omega, by show 8 + (2 + 11) + 247 ≤ 60 * (D9 + 1) + 310; omega⟩ ⟨rfl, rfl⟩ h (fun v25 t24 h => ?_)
                    refine g_if_eq (tgt := 211) X dX12_whoOne_194 (by decide) h (fun h => ?_) (fun h => ?_)
                    · refine g_iconst X dX12_whoOne_211 ?_
                      exact g_zret X h dX12_whoOne_212
                    · refine g_aload_n X dX12_whoOne_197 0 rfl ?_
                      refine g_iconst X dX12_whoOne_198 ?_
                      refine g_bipush X dX12_whoOne_199 (by decide) ?_
                      refine g_callI (rest := []) X (fun u9 h9 => cp_X12_number l E r N 0 63 t24 u9 h9) yy_X12_number yi_X12_number wdM_RX12_384 0 12 (gW_at oM) rfl rfl rfl (Nat.le_of_ble_eq_true rfl) dX12_whoOne_201 ⟨by show 9 + 1 ≤ D9 + 1 + 11; omega, by show 8 + (3 + 11) + 268 ≤ 60 * (D9 + 1) + 310; omega⟩ ⟨rfl, rfl⟩ h (fun v27 t26 h => ?_)
                      refine g_if_eq (tgt := 211) X dX12_whoOne_204 (by decide) h (fun h => ?_) (fun h => ?_)
                      · refine g_iconst X dX12_whoOne_211 ?_
                        exact g_zret X h dX12_whoOne_212
                      · refine g_iconst X dX12_whoOne_207 ?_
                        refine g_goto (tgt := 212) X dX12_whoOne_208 (by decide) ?_
                        exact g_zret X h dX12_whoOne_212
                  · rw [if_neg e9_20] at h
                    by_cases e9_21 : v4 = 21
                    · rw [if_pos e9_21] at h
                      refine g_tableIn X (tgt := 213) (off := 155) dX12_whoOne_58 (k := 21) hr9 e9_21 (by decide) (by decide) rfl (by decide) ?_
                      refine g_aload_n X dX12_whoOne_213 0 rfl ?_
                      refine g_bipush X dX12_whoOne_214 (by decide) ?_
                      refine g_callI (rest := []) X (fun u9 h9 => cp_X12_takes l E r N 21 t1 u9 h9) yy_X12_takes yi_X12_takes wdM_RX12_329 0 12 (gW_at oM) rfl rfl rfl (Nat.le_of_ble_eq_true rfl) dX12_whoOne_216 ⟨by show 8 + 1 ≤ D9 + 1 + 11; omega, by show 8 + (2 + 11) + 247 ≤ 60 * (D9 + 1) + 310; omega⟩ ⟨rfl, rfl⟩ h (fun v29 t28 h => ?_)
                      refine g_if_ne (tgt := 224) X dX12_whoOne_219 (by decide) h (fun h => ?_) (fun h => ?_)
                      · refine g_aload_n X dX12_whoOne_224 0 rfl ?_
                        refine g_getI X fM_3 rfl dX12_whoOne_225 h (fun v30 h => ?_)
                        refine g_iconst X dX12_whoOne_228 ?_
                        refine g_join (J := fun jj => ∀ (t31 : St), jj  t31 = some z → gP p l e (rmS_whoText (D9 + 1)) s m args below meth c E A 1 (MQ below ((gqI E (gW E r shM) z) A) args s mc ms A) (gW E r shM) 257 [(0, .ref (r 200))] [] t31) h (fun  t31 h => ?_) (fun J32 hJ32 h => ?_)
                        · refine g_aload_n X dX12_whoOne_257 0 rfl ?_
                          refine g_iconst X dX12_whoOne_258 ?_
                          refine g_callI (rest := []) X (fun u9 h9 => cp_X12_wrong l E r N 1 t31 u9 h9) yy_X12_wrong yi_X12_wrong wdM_RX12_317 0 12 (gW_at oM) rfl rfl rfl (Nat.le_of_ble_eq_true rfl) dX12_whoOne_259 ⟨by show 0 + 1 ≤ D9 + 1 + 11; omega, by show 8 + (2 + 11) + 0 ≤ 60 * (D9 + 1) + 310; omega⟩ ⟨rfl, rfl⟩ h (fun v34 t33 h => ?_)
                          exact g_zret X h dX12_whoOne_262
                        refine g_icmp_ne (tgt := 257) X dX12_whoOne_229 (by decide) h (fun h => ?_) (fun h => ?_)
                        · exact g_sub (lv' := [(0, .ref (r 200))]) [0] rfl (hJ32 t28 h)
                        · refine g_aload_n X dX12_whoOne_232 0 rfl ?_
                          refine g_getI X fM_5 rfl dX12_whoOne_233 h (fun v35 h => ?_)
                          refine g_bipush X dX12_whoOne_236 (by decide) ?_
                          refine g_bipush X dX12_whoOne_238 (by decide) ?_
                          refine g_callsI (rest := []) X (fun u9 h9 => cp_X12_in l E r N v35 31 34 t28 u9 h9) yy_X12_in wdT_X12_in wdM_RX12_227 rfl rfl (Nat.le_of_ble_eq_true rfl) dX12_whoOne_240 ⟨by show 0 + 1 ≤ D9 + 1 + 11; omega, by show 8 + (3 + 11) + 0 ≤ 60 * (D9 + 1) + 310; omega⟩ ⟨rfl, rfl⟩ h (fun v37 t36 h => ?_)
                          refine g_if_eq (tgt := 257) X dX12_whoOne_243 (by decide) h (fun h => ?_) (fun h => ?_)
                          · exact g_sub (lv' := [(0, .ref (r 200))]) [0] rfl (hJ32 t36 h)
                          · refine g_aload_n X dX12_whoOne_246 0 rfl ?_
                            refine g_aload_n X dX12_whoOne_247 0 rfl ?_
                            refine g_getI X fM_5 rfl dX12_whoOne_248 h (fun v38 h => ?_)
                            refine g_callI (rest := []) X (fun u9 h9 => cp_X12_takes l E r N v38 t36 u9 h9) yy_X12_takes yi_X12_takes wdM_RX12_329 0 12 (gW_at oM) rfl rfl rfl (Nat.le_of_ble_eq_true rfl) dX12_whoOne_251 ⟨by show 8 + 1 ≤ D9 + 1 + 11; omega, by show 8 + (2 + 11) + 247 ≤ 60 * (D9 + 1) + 310; omega⟩ ⟨rfl, rfl⟩ h (fun v40 t39 h => ?_)
                            refine g_goto (tgt := 262) X dX12_whoOne_254 (by decide) ?_
                            exact g_zret X h dX12_whoOne_262
                      · refine g_iconst X dX12_whoOne_222 ?_
                        exact g_zret X h dX12_whoOne_223
                    · rw [if_neg e9_21] at h
                      by_cases e9_22 : v4 = 22
                      · rw [if_pos e9_22] at h
                        refine g_tableIn X (tgt := 263) (off := 205) dX12_whoOne_58 (k := 22) hr9 e9_22 (by decide) (by decide) rfl (by decide) ?_
                        refine g_aload_n X dX12_whoOne_263 0 rfl ?_
                        refine g_bipush X dX12_whoOne_264 (by decide) ?_
                        refine g_callI (rest := []) X (fun u9 h9 => cp_X12_takes l E r N 22 t1 u9 h9) yy_X12_takes yi_X12_takes wdM_RX12_329 0 12 (gW_at oM) rfl rfl rfl (Nat.le_of_ble_eq_true rfl) dX12_whoOne_266 ⟨by show 8 + 1 ≤ D9 + 1 + 11; omega, by show 8 + (2 + 11) + 247 ≤ 60 * (D9 + 1) + 310; omega⟩ ⟨rfl, rfl⟩ h (fun v42 t41 h => ?_)
                        refine g_if_eq (tgt := 284) X dX12_whoOne_269 (by decide) h (fun h => ?_) (fun h => ?_)
                        · refine g_iconst X dX12_whoOne_284 ?_
                          exact g_zret X h dX12_whoOne_285
                        · refine g_aload_n X dX12_whoOne_272 0 rfl ?_
                          refine g_iconst X dX12_whoOne_273 ?_
                          refine g_callI (rest := []) X (fun u9 h9 => cp_X12_knownName l E r N 0 t41 u9 h9) yy_X12_knownName yi_X12_knownName wdM_RX12_381 0 12 (gW_at oM) rfl rfl rfl (Nat.le_of_ble_eq_true rfl) dX12_whoOne_274 ⟨by show 9 + 1 ≤ D9 + 1 + 11; omega, by show 8 + (3 + 11) + 268 ≤ 60 * (D9 + 1) + 310; omega⟩ ⟨rfl, rfl⟩ h (fun v44 t43 h => ?_)
                          refine g_if_eq (tgt := 284) X dX12_whoOne_277 (by decide) h (fun h => ?_) (fun h => ?_)
                          · refine g_iconst X dX12_whoOne_284 ?_
                            exact g_zret X h dX12_whoOne_285
                          · refine g_iconst X dX12_whoOne_280 ?_
                            refine g_goto (tgt := 285) X dX12_whoOne_281 (by decide) ?_
                            exact g_zret X h dX12_whoOne_285
                      · rw [if_neg e9_22] at h
                        by_cases e9_23 : v4 = 23
                        · rw [if_pos e9_23] at h
                          refine g_tableIn X (tgt := 286) (off := 228) dX12_whoOne_58 (k := 23) hr9 e9_23 (by decide) (by decide) rfl (by decide) ?_
                          refine g_aload_n X dX12_whoOne_286 0 rfl ?_
                          refine g_bipush X dX12_whoOne_287 (by decide) ?_
                          refine g_callI (rest := []) X (fun u9 h9 => cp_X12_takes l E r N 23 t1 u9 h9) yy_X12_takes yi_X12_takes wdM_RX12_329 0 12 (gW_at oM) rfl rfl rfl (Nat.le_of_ble_eq_true rfl) dX12_whoOne_289 ⟨by show 8 + 1 ≤ D9 + 1 + 11; omega, by show 8 + (2 + 11) + 247 ≤ 60 * (D9 + 1) + 310; omega⟩ ⟨rfl, rfl⟩ h (fun v46 t45 h => ?_)
                          refine g_if_eq (tgt := 326) X dX12_whoOne_292 (by decide) h (fun h => ?_) (fun h => ?_)
                          · refine g_iconst X dX12_whoOne_326 ?_
                            exact g_zret X h dX12_whoOne_327
                          · refine g_aload_n X dX12_whoOne_295 0 rfl ?_
                            refine g_iconst X dX12_whoOne_296 ?_
                            refine g_callI (rest := []) X (fun u9 h9 => cp_X12_knownName l E r N 0 t45 u9 h9) yy_X12_knownName yi_X12_knownName wdM_RX12_381 0 12 (gW_at oM) rfl rfl rfl (Nat.le_of_ble_eq_true rfl) dX12_whoOne_297 ⟨by show 9 + 1 ≤ D9 + 1 + 11; omega, by show 8 + (3 + 11) + 268 ≤ 60 * (D9 + 1) + 310; omega⟩ ⟨rfl, rfl⟩ h (fun v48 t47 h => ?_)
                            refine g_if_eq (tgt := 326) X dX12_whoOne_300 (by decide) h (fun h => ?_) (fun h => ?_)
                            · refine g_iconst X dX12_whoOne_326 ?_
                              exact g_zret X h dX12_whoOne_327
                            · refine g_aload_n X dX12_whoOne_303 0 rfl ?_
                              refine g_iconst X dX12_whoOne_304 ?_
                              refine g_aload_n X dX12_whoOne_305 0 rfl ?_
                              refine g_getR X fM_18 rfl dX12_whoOne_306 ?_
                              refine g_aload_n X dX12_whoOne_309 0 rfl ?_
                              refine g_getI X fM_113 rfl dX12_whoOne_310 h (fun v49 h => ?_)
                              refine g_iald X aM_18 dX12_whoOne_313 h (fun v50 h => ?_)
                              refine g_iconst X dX12_whoOne_314 ?_
                              refine g_isub X dX12_whoOne_315 ?_
                              refine g_callI (rest := []) X (fun u9 h9 => cp_X12_number l E r N 0 (v50 - 1) t47 u9 h9) yy_X12_number yi_X12_number wdM_RX12_384 0 12 (gW_at oM) rfl rfl rfl (Nat.le_of_ble_eq_true rfl) dX12_whoOne_316 ⟨by show 9 + 1 ≤ D9 + 1 + 11; omega, by show 8 + (3 + 11) + 268 ≤ 60 * (D9 + 1) + 310; omega⟩ ⟨rfl, rfl⟩ h (fun v52 t51 h => ?_)
                              refine g_if_eq (tgt := 326) X dX12_whoOne_319 (by decide) h (fun h => ?_) (fun h => ?_)
                              · refine g_iconst X dX12_whoOne_326 ?_
                                exact g_zret X h dX12_whoOne_327
                              · refine g_iconst X dX12_whoOne_322 ?_
                                refine g_goto (tgt := 327) X dX12_whoOne_323 (by decide) ?_
                                exact g_zret X h dX12_whoOne_327
                        · rw [if_neg e9_23] at h
                          by_cases e9_24 : v4 = 24
                          · rw [if_pos e9_24] at h
                            refine g_tableIn X (tgt := 328) (off := 270) dX12_whoOne_58 (k := 24) hr9 e9_24 (by decide) (by decide) rfl (by decide) ?_
                            refine g_aload_n X dX12_whoOne_328 0 rfl ?_
                            refine g_iconst X dX12_whoOne_329 ?_
                            refine g_callI (rest := []) X (fun u9 h9 => cp_X12_wrong l E r N 1 t1 u9 h9) yy_X12_wrong yi_X12_wrong wdM_RX12_317 0 12 (gW_at oM) rfl rfl rfl (Nat.le_of_ble_eq_true rfl) dX12_whoOne_330 ⟨by show 0 + 1 ≤ D9 + 1 + 11; omega, by show 8 + (2 + 11) + 0 ≤ 60 * (D9 + 1) + 310; omega⟩ ⟨rfl, rfl⟩ h (fun v54 t53 h => ?_)
                            exact g_zret X h dX12_whoOne_333
                          · rw [if_neg e9_24] at h
                            by_cases e9_25 : v4 = 25
                            · rw [if_pos e9_25] at h
                              refine g_tableIn X (tgt := 328) (off := 270) dX12_whoOne_58 (k := 25) hr9 e9_25 (by decide) (by decide) rfl (by decide) ?_
                              refine g_aload_n X dX12_whoOne_328 0 rfl ?_
                              refine g_iconst X dX12_whoOne_329 ?_
                              refine g_callI (rest := []) X (fun u9 h9 => cp_X12_wrong l E r N 1 t1 u9 h9) yy_X12_wrong yi_X12_wrong wdM_RX12_317 0 12 (gW_at oM) rfl rfl rfl (Nat.le_of_ble_eq_true rfl) dX12_whoOne_330 ⟨by show 0 + 1 ≤ D9 + 1 + 11; omega, by show 8 + (2 + 11) + 0 ≤ 60 * (D9 + 1) + 310; omega⟩ ⟨rfl, rfl⟩ h (fun v56 t55 h => ?_)
                              exact g_zret X h dX12_whoOne_333
                            · rw [if_neg e9_25] at h
                              by_cases e9_26 : v4 = 26
                              · rw [if_pos e9_26] at h
                                refine g_tableIn X (tgt := 124) (off := 66) dX12_whoOne_58 (k := 26) hr9 e9_26 (by decide) (by decide) rfl (by decide) ?_
                                refine g_aload_n X dX12_whoOne_124 0 rfl ?_
                                refine g_bipush X dX12_whoOne_125 (by decide) ?_
                                refine g_callI (rest := []) X (fun u9 h9 => cp_X12_opens l E r N 26 t1 u9 h9) yy_X12_opens yi_X12_opens wdM_RX12_341 0 12 (gW_at oM) rfl rfl rfl (Nat.le_of_ble_eq_true rfl) dX12_whoOne_127 ⟨by show 9 + 1 ≤ D9 + 1 + 11; omega, by show 8 + (2 + 11) + 268 ≤ 60 * (D9 + 1) + 310; omega⟩ ⟨rfl, rfl⟩ h (fun v58 t57 h => ?_)
                                refine g_if_eq (tgt := 140) X dX12_whoOne_130 (by decide) h (fun h => ?_) (fun h => ?_)
                                · refine g_iconst X dX12_whoOne_140 ?_
                                  exact g_zret X h dX12_whoOne_141
                                · refine g_aload_n X dX12_whoOne_133 0 rfl ?_
                                  refine g_callI (rest := []) X (fun u9 h9 => ho_whoOne t57 u9 h9) yy_X12_whoOne yi_X12_whoOne wdM_RX12_416 0 12 (gW_at oM) rfl rfl rfl (Nat.le_of_ble_eq_true rfl) dX12_whoOne_134 ⟨by show D9 + 11 + 1 ≤ D9 + 1 + 11; omega, by show 8 + (1 + 11) + (60 * D9 + 310) ≤ 60 * (D9 + 1) + 310; omega⟩ ⟨rfl, rfl⟩ h (fun v60 t59 h => ?_)
                                  refine g_if_ne (tgt := 142) X dX12_whoOne_137 (by decide) h (fun h => ?_) (fun h => ?_)
                                  · refine g_aload_n X dX12_whoOne_142 0 rfl ?_
                                    refine g_dup X rfl dX12_whoOne_143 ?_
                                    refine g_getI X fM_35 rfl dX12_whoOne_144 h (fun v61 h => ?_)
                                    refine g_iconst X dX12_whoOne_147 ?_
                                    refine g_isub X dX12_whoOne_148 ?_
                                    refine g_putI X fM_35w rfl dX12_whoOne_149 h (fun t62 h => ?_)
                                    refine g_iconst X dX12_whoOne_152 ?_
                                    exact g_zret X h dX12_whoOne_153
                                  · refine g_iconst X dX12_whoOne_140 ?_
                                    exact g_zret X h dX12_whoOne_141
                              · rw [if_neg e9_26] at h
                                refine g_tableOut X (tgt := 328) dX12_whoOne_58 hr9 (by omega) (by decide) ?_
                                refine g_aload_n X dX12_whoOne_328 0 rfl ?_
                                refine g_iconst X dX12_whoOne_329 ?_
                                refine g_callI (rest := []) X (fun u9 h9 => cp_X12_wrong l E r N 1 t1 u9 h9) yy_X12_wrong yi_X12_wrong wdM_RX12_317 0 12 (gW_at oM) rfl rfl rfl (Nat.le_of_ble_eq_true rfl) dX12_whoOne_330 ⟨by show 0 + 1 ≤ D9 + 1 + 11; omega, by show 8 + (2 + 11) + 0 ≤ 60 * (D9 + 1) + 310; omega⟩ ⟨rfl, rfl⟩ h (fun v64 t63 h => ?_)
                                exact g_zret X h dX12_whoOne_333
    · refine g_aload_n X dX12_whoOne_48 0 rfl ?_
      refine g_iconst X dX12_whoOne_49 ?_
      refine g_callI (rest := []) X (fun u9 h9 => cp_X12_wrong l E r N 1 t1 u9 h9) yy_X12_wrong yi_X12_wrong wdM_RX12_317 0 12 (gW_at oM) rfl rfl rfl (Nat.le_of_ble_eq_true rfl) dX12_whoOne_50 ⟨by show 0 + 1 ≤ D9 + 1 + 11; omega, by show 8 + (2 + 11) + 0 ≤ 60 * (D9 + 1) + 310; omega⟩ ⟨rfl, rfl⟩ h (fun v66 t65 h => ?_)
      exact g_zret X h dX12_whoOne_53
  · refine g_aload_n X dX12_whoOne_9 0 rfl ?_
    refine g_bipush X dX12_whoOne_10 (by decide) ?_
    refine g_callI (rest := []) X (fun u9 h9 => cp_X12_opensBy l E r N 40 t1 u9 h9) yy_X12_opensBy yi_X12_opensBy wdM_RX12_398 0 12 (gW_at oM) rfl rfl rfl (Nat.le_of_ble_eq_true rfl) dX12_whoOne_12 ⟨by show 10 + 1 ≤ D9 + 1 + 11; omega, by show 8 + (2 + 11) + 289 ≤ 60 * (D9 + 1) + 310; omega⟩ ⟨rfl, rfl⟩ h (fun v68 t67 h => ?_)
    refine g_if_eq (tgt := 38) X dX12_whoOne_15 (by decide) h (fun h => ?_) (fun h => ?_)
    · refine g_iconst X dX12_whoOne_38 ?_
      exact g_zret X h dX12_whoOne_39
    · refine g_aload_n X dX12_whoOne_18 0 rfl ?_
      refine g_callI (rest := []) X (fun u9 h9 => ho_whoText t67 u9 h9) yy_X12_whoText yi_X12_whoText wdM_RX12_410 0 12 (gW_at oM) rfl rfl rfl (Nat.le_of_ble_eq_true rfl) dX12_whoOne_19 ⟨by show D9 + 11 + 1 ≤ D9 + 1 + 11; omega, by show 8 + (1 + 11) + (60 * D9 + 310) ≤ 60 * (D9 + 1) + 310; omega⟩ ⟨rfl, rfl⟩ h (fun v70 t69 h => ?_)
      refine g_if_eq (tgt := 38) X dX12_whoOne_22 (by decide) h (fun h => ?_) (fun h => ?_)
      · refine g_iconst X dX12_whoOne_38 ?_
        exact g_zret X h dX12_whoOne_39
      · refine g_aload_n X dX12_whoOne_25 0 rfl ?_
        refine g_bipush X dX12_whoOne_26 (by decide) ?_
        refine g_callI (rest := []) X (fun u9 h9 => cp_X12_closesBy l E r N 41 t69 u9 h9) yy_X12_closesBy yi_X12_closesBy wdM_RX12_404 0 12 (gW_at oM) rfl rfl rfl (Nat.le_of_ble_eq_true rfl) dX12_whoOne_28 ⟨by show 10 + 1 ≤ D9 + 1 + 11; omega, by show 8 + (2 + 11) + 289 ≤ 60 * (D9 + 1) + 310; omega⟩ ⟨rfl, rfl⟩ h (fun v72 t71 h => ?_)
        refine g_if_eq (tgt := 38) X dX12_whoOne_31 (by decide) h (fun h => ?_) (fun h => ?_)
        · refine g_iconst X dX12_whoOne_38 ?_
          exact g_zret X h dX12_whoOne_39
        · refine g_iconst X dX12_whoOne_34 ?_
          refine g_goto (tgt := 39) X dX12_whoOne_35 (by decide) ?_
          exact g_zret X h dX12_whoOne_39
set_option maxHeartbeats 4000000 in
set_option maxRecDepth 100000 in
theorem cpo_X12_whoOne (l : Launch) (E : cE) (r : Nat → Nat) (N : Nat) (D9 : Nat) (fo_whoText : (St → Option (Int × St))) (fo_whoOne : (St → Option (Int × St))) (ho_whoText : ∀ (t : St) (z : Int × St), fo_whoText t = some z → cM l E yX12_whoText cX12_whoText 1 (some .boolean) (rmS_whoText D9) [.ref (r 200)] (gW E r shM t) (gqI E (gW E r shM) z)) (ho_whoOne : ∀ (t : St) (z : Int × St), fo_whoOne t = some z → cM l E yX12_whoOne cX12_whoOne 1 (some .boolean) (rmS_whoText D9) [.ref (r 200)] (gW E r shM t) (gqI E (gW E r shM) z)) (t : St) (z : Int × St) (h : o_X12_whoOne N fo_whoText fo_whoOne t = some z) : cM l E yX12_whoOne cX12_whoOne 1 (some .boolean) (rmS_whoText (D9 + 1)) [.ref (r 200)] (gW E r shM t) (gqI E (gW E r shM) z) := by
  refine g_of (w := gW E r shM) (by decide) (Nat.le_of_ble_eq_true rfl) ?_
  intro p e s m below meth c A X
  exact g_sub (lv' := [(0, .ref (r 200))]) [0] rfl (b_o_X12_whoOne ho_whoText ho_whoOne X h)
def rec_whoText (N : Nat) : Nat → (St → Option (Int × St)) × (St → Option (Int × St)) × (St → Option (Int × St))
  | 0 => (fun _ => none, fun _ => none, fun _ => none)
  | D + 1 => (o_X12_whoText N (rec_whoText N D).2.1, o_X12_whoAnd N (rec_whoText N D).2.2, o_X12_whoOne N (rec_whoText N D).1 (rec_whoText N D).2.2)
theorem rec_whoText_ok (l : Launch) (E : cE) (r : Nat → Nat) (N : Nat) : ∀ D : Nat, (∀ (t : St) (z : Int × St), (rec_whoText N D).1 t = some z → cM l E yX12_whoText cX12_whoText 1 (some .boolean) (rmS_whoText D) [.ref (r 200)] (gW E r shM t) (gqI E (gW E r shM) z)) ∧ (∀ (t : St) (z : Int × St), (rec_whoText N D).2.1 t = some z → cM l E yX12_whoAnd cX12_whoAnd 1 (some .boolean) (rmS_whoText D) [.ref (r 200)] (gW E r shM t) (gqI E (gW E r shM) z)) ∧ (∀ (t : St) (z : Int × St), (rec_whoText N D).2.2 t = some z → cM l E yX12_whoOne cX12_whoOne 1 (some .boolean) (rmS_whoText D) [.ref (r 200)] (gW E r shM t) (gqI E (gW E r shM) z)) := by
  intro D
  induction D with
  | zero => exact ⟨fun _ _ h => (by cases h), fun _ _ h => (by cases h), fun _ _ h => (by cases h)⟩
  | succ D ih => exact ⟨fun t z h => cpo_X12_whoText l E r N D _ ih.2.1 t z h, fun t z h => cpo_X12_whoAnd l E r N D _ ih.2.2 t z h, fun t z h => cpo_X12_whoOne l E r N D _ _ ih.1 ih.2.2 t z h⟩
def f_X12_whoText (N : Nat) (t : St) : Option (Int × St) := (rec_whoText N 100).1 t
abbrev rm_f_X12_whoText : Room := { frames := 111, cells := 0, slots := 0, locals := 6310 }
theorem cp_X12_whoText (l : Launch) (E : cE) (r : Nat → Nat) (N : Nat) (t : St) (z : Int × St) (h : f_X12_whoText N t = some z) : cM l E yX12_whoText cX12_whoText 1 (some .boolean) rm_f_X12_whoText [.ref (r 200)] (gW E r shM t) (gqI E (gW E r shM) z) := (rec_whoText_ok l E r N 100).1 t z h
def f_X12_whoAnd (N : Nat) (t : St) : Option (Int × St) := (rec_whoText N 100).2.1 t
abbrev rm_f_X12_whoAnd : Room := { frames := 111, cells := 0, slots := 0, locals := 6310 }
theorem cp_X12_whoAnd (l : Launch) (E : cE) (r : Nat → Nat) (N : Nat) (t : St) (z : Int × St) (h : f_X12_whoAnd N t = some z) : cM l E yX12_whoAnd cX12_whoAnd 1 (some .boolean) rm_f_X12_whoAnd [.ref (r 200)] (gW E r shM t) (gqI E (gW E r shM) z) := (rec_whoText_ok l E r N 100).2.1 t z h
def f_X12_whoOne (N : Nat) (t : St) : Option (Int × St) := (rec_whoText N 100).2.2 t
abbrev rm_f_X12_whoOne : Room := { frames := 111, cells := 0, slots := 0, locals := 6310 }
theorem cp_X12_whoOne (l : Launch) (E : cE) (r : Nat → Nat) (N : Nat) (t : St) (z : Int × St) (h : f_X12_whoOne N t = some z) : cM l E yX12_whoOne cX12_whoOne 1 (some .boolean) rm_f_X12_whoOne [.ref (r 200)] (gW E r shM t) (gqI E (gW E r shM) z) := (rec_whoText_ok l E r N 100).2.2 t z h
abbrev rmS_condition (D : Nat) : Room := { frames := D + 112, cells := 0, slots := 0, locals := 60 * D + 6330 }
theorem yy_X12_condition : cY yX12_condition cX12_condition 1 (some .boolean) 0 := ⟨wdK_X12_condition, wdZ_RX12, by decide +kernel⟩
theorem yi_X12_condition : cYi yX12_condition := ⟨wdN_X12_condition, wdS_X12_condition⟩
theorem yy_X12_conditionAnd : cY yX12_conditionAnd cX12_conditionAnd 1 (some .boolean) 0 := ⟨wdK_X12_conditionAnd, wdZ_RX12, by decide +kernel⟩
theorem yi_X12_conditionAnd : cYi yX12_conditionAnd := ⟨wdN_X12_conditionAnd, wdS_X12_conditionAnd⟩
theorem yy_X12_conditionOne : cY yX12_conditionOne cX12_conditionOne 1 (some .boolean) 0 := ⟨wdK_X12_conditionOne, wdZ_RX12, by decide +kernel⟩
theorem yi_X12_conditionOne : cYi yX12_conditionOne := ⟨wdN_X12_conditionOne, wdS_X12_conditionOne⟩
theorem dX12_condition_0 : decode cX12_condition 0 = .ok (.aload_n 0, 1) := by decide +kernel
theorem dX12_condition_1 : decode cX12_condition 1 = .ok (.invokevirtual 419, 3) := by decide +kernel
theorem dX12_condition_4 : decode cX12_condition 4 = .ok (.ifCond .ne 5, 3) := by decide +kernel
theorem dX12_condition_7 : decode cX12_condition 7 = .ok (.iconst 0, 1) := by decide +kernel
theorem dX12_condition_8 : decode cX12_condition 8 = .ok (.ireturn, 1) := by decide +kernel
theorem dX12_condition_9 : decode cX12_condition 9 = .ok (.aload_n 0, 1) := by decide +kernel
theorem dX12_condition_10 : decode cX12_condition 10 = .ok (.bipush 24, 2) := by decide +kernel
theorem dX12_condition_12 : decode cX12_condition 12 = .ok (.invokevirtual 326, 3) := by decide +kernel
theorem dX12_condition_15 : decode cX12_condition 15 = .ok (.ifCond .eq 21, 3) := by decide +kernel
theorem dX12_condition_18 : decode cX12_condition 18 = .ok (.aload_n 0, 1) := by decide +kernel
theorem dX12_condition_19 : decode cX12_condition 19 = .ok (.bipush 24, 2) := by decide +kernel
theorem dX12_condition_21 : decode cX12_condition 21 = .ok (.invokevirtual 378, 3) := by decide +kernel
theorem dX12_condition_24 : decode cX12_condition 24 = .ok (.ifCond .eq 10, 3) := by decide +kernel
theorem dX12_condition_27 : decode cX12_condition 27 = .ok (.aload_n 0, 1) := by decide +kernel
theorem dX12_condition_28 : decode cX12_condition 28 = .ok (.invokevirtual 419, 3) := by decide +kernel
theorem dX12_condition_31 : decode cX12_condition 31 = .ok (.ifCond .ne (-22), 3) := by decide +kernel
theorem dX12_condition_34 : decode cX12_condition 34 = .ok (.iconst 0, 1) := by decide +kernel
theorem dX12_condition_35 : decode cX12_condition 35 = .ok (.ireturn, 1) := by decide +kernel
theorem dX12_condition_36 : decode cX12_condition 36 = .ok (.iconst 1, 1) := by decide +kernel
theorem dX12_condition_37 : decode cX12_condition 37 = .ok (.ireturn, 1) := by decide +kernel
def o_X12_condition_L9 (N : Nat) (fo_conditionAnd : (St → Option (Int × St))) (K4 : (St → Option (Int × St))) : Nat → St → Option (Int × St)
  | 0, _ => none
  | n9 + 1, t3 =>
    bdI (f_X12_isKey N 24 t3) fun v6 t5 =>
    cmpI v6 0 (if v6 = 0 then (K4 t5)
    else (bdI (f_X12_key N 24 t5) fun v8 t7 =>
    cmpI v8 0 (if v8 = 0 then (boI 0 (some (0, t7)))
    else (bdI (fo_conditionAnd t7) fun v10 t9 =>
    cmpI v10 0 (if v10 = 0 then (boI 0 (some (0, t9)))
    else (o_X12_condition_L9 N fo_conditionAnd K4 n9 t9))))))
def o_X12_condition (N : Nat) (fo_conditionAnd : (St → Option (Int × St))) (t : St) : Option (Int × St) :=
    bdI (fo_conditionAnd t) fun v2 t1 =>
    cmpI v2 0 (if v2 = 0 then (boI 0 (some (0, t1)))
    else (o_X12_condition_L9 N fo_conditionAnd (fun (t11 : St) => boI 1 (some (1, t11))) N t1))
set_option maxHeartbeats 4000000 in
set_option maxRecDepth 100000 in
theorem t_o_X12_condition_L9 {p : Program} {l : Launch} {e : Env} {s : State} {m : MethodId} {args : Array Value} {below : List Frame} {meth : Method} {c : Code} {E : cE} {A : Nat → Prop} {r : Nat → Nat} {mc ms : Nat} {z : Int × St} {N : Nat} {D9 : Nat} {fo_conditionAnd : (St → Option (Int × St))} {K4 : (St → Option (Int × St))} (X : gX p s m meth c cX12_condition 1 (some .boolean) yX12_condition args E A) (ho_conditionAnd : ∀ (t : St) (z : Int × St), fo_conditionAnd t = some z → cM l E yX12_conditionAnd cX12_conditionAnd 1 (some .boolean) (rmS_condition D9) [.ref (r 200)] (gW E r shM t) (gqI E (gW E r shM) z)) (hK4 : ∀ (t9 : St), K4 t9 = some z → gP p l e (rmS_condition (D9 + 1)) s m args below meth c E A 1 (MQ below ((gqI E (gW E r shM) z) A) args s mc ms A) (gW E r shM) 36 [] [] t9) : ∀ (n9 : Nat) (t3 : St), o_X12_condition_L9 N fo_conditionAnd K4 n9 t3 = some z → gP p l e (rmS_condition (D9 + 1)) s m args below meth c E A 1 (MQ below ((gqI E (gW E r shM) z) A) args s mc ms A) (gW E r shM) 9 [(0, .ref (r 200))] [] t3 := by
  intro n9
  induction n9 with
  | zero => intro t3 h; cases h
  | succ n9 ih =>
    intro t3 h
    unfold o_X12_condition_L9 at h
    refine g_aload_n X dX12_condition_9 0 rfl ?_
    refine g_bipush X dX12_condition_10 (by decide) ?_
    refine g_callI (rest := []) X (fun u9 h9 => cp_X12_isKey l E r N 24 t3 u9 h9) yy_X12_isKey yi_X12_isKey wdM_RX12_326 0 12 (gW_at oM) rfl rfl rfl (Nat.le_of_ble_eq_true rfl) dX12_condition_12 ⟨by show 0 + 1 ≤ D9 + 1 + 112; omega, by show 8 + (2 + 11) + 0 ≤ 60 * (D9 + 1) + 6330; omega⟩ ⟨rfl, rfl⟩ h (fun v6 t5 h => ?_)
    refine g_if_eq (tgt := 36) X dX12_condition_15 (by decide) h (fun h => ?_) (fun h => ?_)
    · exact g_sub (lv' := []) [] rfl (hK4 t5 h)
    · refine g_aload_n X dX12_condition_18 0 rfl ?_
      refine g_bipush X dX12_condition_19 (by decide) ?_
      refine g_callI (rest := []) X (fun u9 h9 => cp_X12_key l E r N 24 t5 u9 h9) yy_X12_key yi_X12_key wdM_RX12_378 0 12 (gW_at oM) rfl rfl rfl (Nat.le_of_ble_eq_true rfl) dX12_condition_21 ⟨by show 9 + 1 ≤ D9 + 1 + 112; omega, by show 8 + (2 + 11) + 268 ≤ 60 * (D9 + 1) + 6330; omega⟩ ⟨rfl, rfl⟩ h (fun v8 t7 h => ?_)
      refine g_if_eq (tgt := 34) X dX12_condition_24 (by decide) h (fun h => ?_) (fun h => ?_)
      · refine g_iconst X dX12_condition_34 ?_
        exact g_zret X h dX12_condition_35
      · refine g_aload_n X dX12_condition_27 0 rfl ?_
        refine g_callI (rest := []) X (fun u9 h9 => ho_conditionAnd t7 u9 h9) yy_X12_conditionAnd yi_X12_conditionAnd wdM_RX12_419 0 12 (gW_at oM) rfl rfl rfl (Nat.le_of_ble_eq_true rfl) dX12_condition_28 ⟨by show D9 + 112 + 1 ≤ D9 + 1 + 112; omega, by show 8 + (1 + 11) + (60 * D9 + 6330) ≤ 60 * (D9 + 1) + 6330; omega⟩ ⟨rfl, rfl⟩ h (fun v10 t9 h => ?_)
        refine g_if_ne (tgt := 9) X dX12_condition_31 (by decide) h (fun h => ?_) (fun h => ?_)
        · exact g_sub (lv' := [(0, .ref (r 200))]) [0] rfl (ih t9 h)
        · refine g_iconst X dX12_condition_34 ?_
          exact g_zret X h dX12_condition_35
set_option maxHeartbeats 4000000 in
set_option maxRecDepth 100000 in
theorem b_o_X12_condition {p : Program} {l : Launch} {e : Env} {s : State} {m : MethodId} {args : Array Value} {below : List Frame} {meth : Method} {c : Code} {E : cE} {A : Nat → Prop} {r : Nat → Nat} {mc ms : Nat} {z : Int × St} {N : Nat} {D9 : Nat} {fo_conditionAnd : (St → Option (Int × St))} (ho_conditionAnd : ∀ (t : St) (z : Int × St), fo_conditionAnd t = some z → cM l E yX12_conditionAnd cX12_conditionAnd 1 (some .boolean) (rmS_condition D9) [.ref (r 200)] (gW E r shM t) (gqI E (gW E r shM) z)) {t : St} (X : gX p s m meth c cX12_condition 1 (some .boolean) yX12_condition args E A) (h : o_X12_condition N fo_conditionAnd t = some z) : gP p l e (rmS_condition (D9 + 1)) s m args below meth c E A 1 (MQ below ((gqI E (gW E r shM) z) A) args s mc ms A) (gW E r shM) 0 [(0, .ref (r 200))] [] t := by
  unfold o_X12_condition at h
  refine g_aload_n X dX12_condition_0 0 rfl ?_
  refine g_callI (rest := []) X (fun u9 h9 => ho_conditionAnd t u9 h9) yy_X12_conditionAnd yi_X12_conditionAnd wdM_RX12_419 0 12 (gW_at oM) rfl rfl rfl (Nat.le_of_ble_eq_true rfl) dX12_condition_1 ⟨by show D9 + 112 + 1 ≤ D9 + 1 + 112; omega, by show 8 + (1 + 11) + (60 * D9 + 6330) ≤ 60 * (D9 + 1) + 6330; omega⟩ ⟨rfl, rfl⟩ h (fun v2 t1 h => ?_)
  refine g_if_ne (tgt := 9) X dX12_condition_4 (by decide) h (fun h => ?_) (fun h => ?_)
  · refine g_sub (lv' := [(0, .ref (r 200))]) [0] rfl (t_o_X12_condition_L9 X ho_conditionAnd (fun t11 h => ?_) N t1 h)
    · refine g_iconst X dX12_condition_36 ?_
      exact g_zret X h dX12_condition_37
  · refine g_iconst X dX12_condition_7 ?_
    exact g_zret X h dX12_condition_8
set_option maxHeartbeats 4000000 in
set_option maxRecDepth 100000 in
theorem cpo_X12_condition (l : Launch) (E : cE) (r : Nat → Nat) (N : Nat) (D9 : Nat) (fo_conditionAnd : (St → Option (Int × St))) (ho_conditionAnd : ∀ (t : St) (z : Int × St), fo_conditionAnd t = some z → cM l E yX12_conditionAnd cX12_conditionAnd 1 (some .boolean) (rmS_condition D9) [.ref (r 200)] (gW E r shM t) (gqI E (gW E r shM) z)) (t : St) (z : Int × St) (h : o_X12_condition N fo_conditionAnd t = some z) : cM l E yX12_condition cX12_condition 1 (some .boolean) (rmS_condition (D9 + 1)) [.ref (r 200)] (gW E r shM t) (gqI E (gW E r shM) z) := by
  refine g_of (w := gW E r shM) (by decide) (Nat.le_of_ble_eq_true rfl) ?_
  intro p e s m below meth c A X
  exact g_sub (lv' := [(0, .ref (r 200))]) [0] rfl (b_o_X12_condition ho_conditionAnd X h)
theorem dX12_conditionAnd_0 : decode cX12_conditionAnd 0 = .ok (.aload_n 0, 1) := by decide +kernel
theorem dX12_conditionAnd_1 : decode cX12_conditionAnd 1 = .ok (.invokevirtual 422, 3) := by decide +kernel
theorem dX12_conditionAnd_4 : decode cX12_conditionAnd 4 = .ok (.ifCond .ne 5, 3) := by decide +kernel
theorem dX12_conditionAnd_7 : decode cX12_conditionAnd 7 = .ok (.iconst 0, 1) := by decide +kernel
theorem dX12_conditionAnd_8 : decode cX12_conditionAnd 8 = .ok (.ireturn, 1) := by decide +kernel
theorem dX12_conditionAnd_9 : decode cX12_conditionAnd 9 = .ok (.aload_n 0, 1) := by decide +kernel
theorem dX12_conditionAnd_10 : decode cX12_conditionAnd 10 = .ok (.bipush 25, 2) := by decide +kernel
theorem dX12_conditionAnd_12 : decode cX12_conditionAnd 12 = .ok (.invokevirtual 326, 3) := by decide +kernel
theorem dX12_conditionAnd_15 : decode cX12_conditionAnd 15 = .ok (.ifCond .eq 21, 3) := by decide +kernel
theorem dX12_conditionAnd_18 : decode cX12_conditionAnd 18 = .ok (.aload_n 0, 1) := by decide +kernel
theorem dX12_conditionAnd_19 : decode cX12_conditionAnd 19 = .ok (.bipush 25, 2) := by decide +kernel
theorem dX12_conditionAnd_21 : decode cX12_conditionAnd 21 = .ok (.invokevirtual 378, 3) := by decide +kernel
theorem dX12_conditionAnd_24 : decode cX12_conditionAnd 24 = .ok (.ifCond .eq 10, 3) := by decide +kernel
theorem dX12_conditionAnd_27 : decode cX12_conditionAnd 27 = .ok (.aload_n 0, 1) := by decide +kernel
theorem dX12_conditionAnd_28 : decode cX12_conditionAnd 28 = .ok (.invokevirtual 422, 3) := by decide +kernel
theorem dX12_conditionAnd_31 : decode cX12_conditionAnd 31 = .ok (.ifCond .ne (-22), 3) := by decide +kernel
theorem dX12_conditionAnd_34 : decode cX12_conditionAnd 34 = .ok (.iconst 0, 1) := by decide +kernel
theorem dX12_conditionAnd_35 : decode cX12_conditionAnd 35 = .ok (.ireturn, 1) := by decide +kernel
theorem dX12_conditionAnd_36 : decode cX12_conditionAnd 36 = .ok (.iconst 1, 1) := by decide +kernel
theorem dX12_conditionAnd_37 : decode cX12_conditionAnd 37 = .ok (.ireturn, 1) := by decide +kernel
def o_X12_conditionAnd_L9 (N : Nat) (fo_conditionOne : (St → Option (Int × St))) (K4 : (St → Option (Int × St))) : Nat → St → Option (Int × St)
  | 0, _ => none
  | n9 + 1, t3 =>
    bdI (f_X12_isKey N 25 t3) fun v6 t5 =>
    cmpI v6 0 (if v6 = 0 then (K4 t5)
    else (bdI (f_X12_key N 25 t5) fun v8 t7 =>
    cmpI v8 0 (if v8 = 0 then (boI 0 (some (0, t7)))
    else (bdI (fo_conditionOne t7) fun v10 t9 =>
    cmpI v10 0 (if v10 = 0 then (boI 0 (some (0, t9)))
    else (o_X12_conditionAnd_L9 N fo_conditionOne K4 n9 t9))))))
def o_X12_conditionAnd (N : Nat) (fo_conditionOne : (St → Option (Int × St))) (t : St) : Option (Int × St) :=
    bdI (fo_conditionOne t) fun v2 t1 =>
    cmpI v2 0 (if v2 = 0 then (boI 0 (some (0, t1)))
    else (o_X12_conditionAnd_L9 N fo_conditionOne (fun (t11 : St) => boI 1 (some (1, t11))) N t1))
set_option maxHeartbeats 4000000 in
set_option maxRecDepth 100000 in
theorem t_o_X12_conditionAnd_L9 {p : Program} {l : Launch} {e : Env} {s : State} {m : MethodId} {args : Array Value} {below : List Frame} {meth : Method} {c : Code} {E : cE} {A : Nat → Prop} {r : Nat → Nat} {mc ms : Nat} {z : Int × St} {N : Nat} {D9 : Nat} {fo_conditionOne : (St → Option (Int × St))} {K4 : (St → Option (Int × St))} (X : gX p s m meth c cX12_conditionAnd 1 (some .boolean) yX12_conditionAnd args E A) (ho_conditionOne : ∀ (t : St) (z : Int × St), fo_conditionOne t = some z → cM l E yX12_conditionOne cX12_conditionOne 1 (some .boolean) (rmS_condition D9) [.ref (r 200)] (gW E r shM t) (gqI E (gW E r shM) z)) (hK4 : ∀ (t9 : St), K4 t9 = some z → gP p l e (rmS_condition (D9 + 1)) s m args below meth c E A 1 (MQ below ((gqI E (gW E r shM) z) A) args s mc ms A) (gW E r shM) 36 [] [] t9) : ∀ (n9 : Nat) (t3 : St), o_X12_conditionAnd_L9 N fo_conditionOne K4 n9 t3 = some z → gP p l e (rmS_condition (D9 + 1)) s m args below meth c E A 1 (MQ below ((gqI E (gW E r shM) z) A) args s mc ms A) (gW E r shM) 9 [(0, .ref (r 200))] [] t3 := by
  intro n9
  induction n9 with
  | zero => intro t3 h; cases h
  | succ n9 ih =>
    intro t3 h
    unfold o_X12_conditionAnd_L9 at h
    refine g_aload_n X dX12_conditionAnd_9 0 rfl ?_
    refine g_bipush X dX12_conditionAnd_10 (by decide) ?_
    refine g_callI (rest := []) X (fun u9 h9 => cp_X12_isKey l E r N 25 t3 u9 h9) yy_X12_isKey yi_X12_isKey wdM_RX12_326 0 12 (gW_at oM) rfl rfl rfl (Nat.le_of_ble_eq_true rfl) dX12_conditionAnd_12 ⟨by show 0 + 1 ≤ D9 + 1 + 112; omega, by show 8 + (2 + 11) + 0 ≤ 60 * (D9 + 1) + 6330; omega⟩ ⟨rfl, rfl⟩ h (fun v6 t5 h => ?_)
    refine g_if_eq (tgt := 36) X dX12_conditionAnd_15 (by decide) h (fun h => ?_) (fun h => ?_)
    · exact g_sub (lv' := []) [] rfl (hK4 t5 h)
    · refine g_aload_n X dX12_conditionAnd_18 0 rfl ?_
      refine g_bipush X dX12_conditionAnd_19 (by decide) ?_
      refine g_callI (rest := []) X (fun u9 h9 => cp_X12_key l E r N 25 t5 u9 h9) yy_X12_key yi_X12_key wdM_RX12_378 0 12 (gW_at oM) rfl rfl rfl (Nat.le_of_ble_eq_true rfl) dX12_conditionAnd_21 ⟨by show 9 + 1 ≤ D9 + 1 + 112; omega, by show 8 + (2 + 11) + 268 ≤ 60 * (D9 + 1) + 6330; omega⟩ ⟨rfl, rfl⟩ h (fun v8 t7 h => ?_)
      refine g_if_eq (tgt := 34) X dX12_conditionAnd_24 (by decide) h (fun h => ?_) (fun h => ?_)
      · refine g_iconst X dX12_conditionAnd_34 ?_
        exact g_zret X h dX12_conditionAnd_35
      · refine g_aload_n X dX12_conditionAnd_27 0 rfl ?_
        refine g_callI (rest := []) X (fun u9 h9 => ho_conditionOne t7 u9 h9) yy_X12_conditionOne yi_X12_conditionOne wdM_RX12_422 0 12 (gW_at oM) rfl rfl rfl (Nat.le_of_ble_eq_true rfl) dX12_conditionAnd_28 ⟨by show D9 + 112 + 1 ≤ D9 + 1 + 112; omega, by show 8 + (1 + 11) + (60 * D9 + 6330) ≤ 60 * (D9 + 1) + 6330; omega⟩ ⟨rfl, rfl⟩ h (fun v10 t9 h => ?_)
        refine g_if_ne (tgt := 9) X dX12_conditionAnd_31 (by decide) h (fun h => ?_) (fun h => ?_)
        · exact g_sub (lv' := [(0, .ref (r 200))]) [0] rfl (ih t9 h)
        · refine g_iconst X dX12_conditionAnd_34 ?_
          exact g_zret X h dX12_conditionAnd_35
set_option maxHeartbeats 4000000 in
set_option maxRecDepth 100000 in
theorem b_o_X12_conditionAnd {p : Program} {l : Launch} {e : Env} {s : State} {m : MethodId} {args : Array Value} {below : List Frame} {meth : Method} {c : Code} {E : cE} {A : Nat → Prop} {r : Nat → Nat} {mc ms : Nat} {z : Int × St} {N : Nat} {D9 : Nat} {fo_conditionOne : (St → Option (Int × St))} (ho_conditionOne : ∀ (t : St) (z : Int × St), fo_conditionOne t = some z → cM l E yX12_conditionOne cX12_conditionOne 1 (some .boolean) (rmS_condition D9) [.ref (r 200)] (gW E r shM t) (gqI E (gW E r shM) z)) {t : St} (X : gX p s m meth c cX12_conditionAnd 1 (some .boolean) yX12_conditionAnd args E A) (h : o_X12_conditionAnd N fo_conditionOne t = some z) : gP p l e (rmS_condition (D9 + 1)) s m args below meth c E A 1 (MQ below ((gqI E (gW E r shM) z) A) args s mc ms A) (gW E r shM) 0 [(0, .ref (r 200))] [] t := by
  unfold o_X12_conditionAnd at h
  refine g_aload_n X dX12_conditionAnd_0 0 rfl ?_
  refine g_callI (rest := []) X (fun u9 h9 => ho_conditionOne t u9 h9) yy_X12_conditionOne yi_X12_conditionOne wdM_RX12_422 0 12 (gW_at oM) rfl rfl rfl (Nat.le_of_ble_eq_true rfl) dX12_conditionAnd_1 ⟨by show D9 + 112 + 1 ≤ D9 + 1 + 112; omega, by show 8 + (1 + 11) + (60 * D9 + 6330) ≤ 60 * (D9 + 1) + 6330; omega⟩ ⟨rfl, rfl⟩ h (fun v2 t1 h => ?_)
  refine g_if_ne (tgt := 9) X dX12_conditionAnd_4 (by decide) h (fun h => ?_) (fun h => ?_)
  · refine g_sub (lv' := [(0, .ref (r 200))]) [0] rfl (t_o_X12_conditionAnd_L9 X ho_conditionOne (fun t11 h => ?_) N t1 h)
    · refine g_iconst X dX12_conditionAnd_36 ?_
      exact g_zret X h dX12_conditionAnd_37
  · refine g_iconst X dX12_conditionAnd_7 ?_
    exact g_zret X h dX12_conditionAnd_8
set_option maxHeartbeats 4000000 in
set_option maxRecDepth 100000 in
theorem cpo_X12_conditionAnd (l : Launch) (E : cE) (r : Nat → Nat) (N : Nat) (D9 : Nat) (fo_conditionOne : (St → Option (Int × St))) (ho_conditionOne : ∀ (t : St) (z : Int × St), fo_conditionOne t = some z → cM l E yX12_conditionOne cX12_conditionOne 1 (some .boolean) (rmS_condition D9) [.ref (r 200)] (gW E r shM t) (gqI E (gW E r shM) z)) (t : St) (z : Int × St) (h : o_X12_conditionAnd N fo_conditionOne t = some z) : cM l E yX12_conditionAnd cX12_conditionAnd 1 (some .boolean) (rmS_condition (D9 + 1)) [.ref (r 200)] (gW E r shM t) (gqI E (gW E r shM) z) := by
  refine g_of (w := gW E r shM) (by decide) (Nat.le_of_ble_eq_true rfl) ?_
  intro p e s m below meth c A X
  exact g_sub (lv' := [(0, .ref (r 200))]) [0] rfl (b_o_X12_conditionAnd ho_conditionOne X h)
theorem dX12_conditionOne_0 : decode cX12_conditionOne 0 = .ok (.aload_n 0, 1) := by decide +kernel
theorem dX12_conditionOne_1 : decode cX12_conditionOne 1 = .ok (.bipush 40, 2) := by decide +kernel
theorem dX12_conditionOne_3 : decode cX12_conditionOne 3 = .ok (.invokevirtual 332, 3) := by decide +kernel
theorem dX12_conditionOne_6 : decode cX12_conditionOne 6 = .ok (.ifCond .eq 34, 3) := by decide +kernel
theorem dX12_conditionOne_9 : decode cX12_conditionOne 9 = .ok (.aload_n 0, 1) := by decide +kernel
theorem dX12_conditionOne_10 : decode cX12_conditionOne 10 = .ok (.bipush 40, 2) := by decide +kernel
theorem dX12_conditionOne_12 : decode cX12_conditionOne 12 = .ok (.invokevirtual 398, 3) := by decide +kernel
theorem dX12_conditionOne_15 : decode cX12_conditionOne 15 = .ok (.ifCond .eq 23, 3) := by decide +kernel
theorem dX12_conditionOne_18 : decode cX12_conditionOne 18 = .ok (.aload_n 0, 1) := by decide +kernel
theorem dX12_conditionOne_19 : decode cX12_conditionOne 19 = .ok (.invokevirtual 407, 3) := by decide +kernel
theorem dX12_conditionOne_22 : decode cX12_conditionOne 22 = .ok (.ifCond .eq 16, 3) := by decide +kernel
theorem dX12_conditionOne_25 : decode cX12_conditionOne 25 = .ok (.aload_n 0, 1) := by decide +kernel
theorem dX12_conditionOne_26 : decode cX12_conditionOne 26 = .ok (.bipush 41, 2) := by decide +kernel
theorem dX12_conditionOne_28 : decode cX12_conditionOne 28 = .ok (.invokevirtual 404, 3) := by decide +kernel
theorem dX12_conditionOne_31 : decode cX12_conditionOne 31 = .ok (.ifCond .eq 7, 3) := by decide +kernel
theorem dX12_conditionOne_34 : decode cX12_conditionOne 34 = .ok (.iconst 1, 1) := by decide +kernel
theorem dX12_conditionOne_35 : decode cX12_conditionOne 35 = .ok (.goto 4, 3) := by decide +kernel
theorem dX12_conditionOne_38 : decode cX12_conditionOne 38 = .ok (.iconst 0, 1) := by decide +kernel
theorem dX12_conditionOne_39 : decode cX12_conditionOne 39 = .ok (.ireturn, 1) := by decide +kernel
theorem dX12_conditionOne_40 : decode cX12_conditionOne 40 = .ok (.aload_n 0, 1) := by decide +kernel
theorem dX12_conditionOne_41 : decode cX12_conditionOne 41 = .ok (.bipush 26, 2) := by decide +kernel
theorem dX12_conditionOne_43 : decode cX12_conditionOne 43 = .ok (.invokevirtual 326, 3) := by decide +kernel
theorem dX12_conditionOne_46 : decode cX12_conditionOne 46 = .ok (.ifCond .eq 33, 3) := by decide +kernel
theorem dX12_conditionOne_49 : decode cX12_conditionOne 49 = .ok (.aload_n 0, 1) := by decide +kernel
theorem dX12_conditionOne_50 : decode cX12_conditionOne 50 = .ok (.bipush 26, 2) := by decide +kernel
theorem dX12_conditionOne_52 : decode cX12_conditionOne 52 = .ok (.invokevirtual 341, 3) := by decide +kernel
theorem dX12_conditionOne_55 : decode cX12_conditionOne 55 = .ok (.ifCond .eq 10, 3) := by decide +kernel
theorem dX12_conditionOne_58 : decode cX12_conditionOne 58 = .ok (.aload_n 0, 1) := by decide +kernel
theorem dX12_conditionOne_59 : decode cX12_conditionOne 59 = .ok (.invokevirtual 422, 3) := by decide +kernel
theorem dX12_conditionOne_62 : decode cX12_conditionOne 62 = .ok (.ifCond .ne 5, 3) := by decide +kernel
theorem dX12_conditionOne_65 : decode cX12_conditionOne 65 = .ok (.iconst 0, 1) := by decide +kernel
theorem dX12_conditionOne_66 : decode cX12_conditionOne 66 = .ok (.ireturn, 1) := by decide +kernel
theorem dX12_conditionOne_67 : decode cX12_conditionOne 67 = .ok (.aload_n 0, 1) := by decide +kernel
theorem dX12_conditionOne_68 : decode cX12_conditionOne 68 = .ok (.dup, 1) := by decide +kernel
theorem dX12_conditionOne_69 : decode cX12_conditionOne 69 = .ok (.getfield 338, 3) := by decide +kernel
theorem dX12_conditionOne_72 : decode cX12_conditionOne 72 = .ok (.iconst 1, 1) := by decide +kernel
theorem dX12_conditionOne_73 : decode cX12_conditionOne 73 = .ok (.isub, 1) := by decide +kernel
theorem dX12_conditionOne_74 : decode cX12_conditionOne 74 = .ok (.putfield 338, 3) := by decide +kernel
theorem dX12_conditionOne_77 : decode cX12_conditionOne 77 = .ok (.iconst 1, 1) := by decide +kernel
theorem dX12_conditionOne_78 : decode cX12_conditionOne 78 = .ok (.ireturn, 1) := by decide +kernel
theorem dX12_conditionOne_79 : decode cX12_conditionOne 79 = .ok (.aload_n 0, 1) := by decide +kernel
theorem dX12_conditionOne_80 : decode cX12_conditionOne 80 = .ok (.bipush 27, 2) := by decide +kernel
theorem dX12_conditionOne_82 : decode cX12_conditionOne 82 = .ok (.invokevirtual 326, 3) := by decide +kernel
theorem dX12_conditionOne_85 : decode cX12_conditionOne 85 = .ok (.ifCond .eq 10, 3) := by decide +kernel
theorem dX12_conditionOne_88 : decode cX12_conditionOne 88 = .ok (.aload_n 0, 1) := by decide +kernel
theorem dX12_conditionOne_89 : decode cX12_conditionOne 89 = .ok (.bipush 27, 2) := by decide +kernel
theorem dX12_conditionOne_91 : decode cX12_conditionOne 91 = .ok (.invokevirtual 329, 3) := by decide +kernel
theorem dX12_conditionOne_94 : decode cX12_conditionOne 94 = .ok (.ireturn, 1) := by decide +kernel
theorem dX12_conditionOne_95 : decode cX12_conditionOne 95 = .ok (.aload_n 0, 1) := by decide +kernel
theorem dX12_conditionOne_96 : decode cX12_conditionOne 96 = .ok (.bipush 28, 2) := by decide +kernel
theorem dX12_conditionOne_98 : decode cX12_conditionOne 98 = .ok (.invokevirtual 326, 3) := by decide +kernel
theorem dX12_conditionOne_101 : decode cX12_conditionOne 101 = .ok (.ifCond .eq 44, 3) := by decide +kernel
theorem dX12_conditionOne_104 : decode cX12_conditionOne 104 = .ok (.aload_n 0, 1) := by decide +kernel
theorem dX12_conditionOne_105 : decode cX12_conditionOne 105 = .ok (.bipush 28, 2) := by decide +kernel
theorem dX12_conditionOne_107 : decode cX12_conditionOne 107 = .ok (.invokevirtual 329, 3) := by decide +kernel
theorem dX12_conditionOne_110 : decode cX12_conditionOne 110 = .ok (.ifCond .eq 33, 3) := by decide +kernel
theorem dX12_conditionOne_113 : decode cX12_conditionOne 113 = .ok (.aload_n 0, 1) := by decide +kernel
theorem dX12_conditionOne_114 : decode cX12_conditionOne 114 = .ok (.invokevirtual 410, 3) := by decide +kernel
theorem dX12_conditionOne_117 : decode cX12_conditionOne 117 = .ok (.ifCond .eq 26, 3) := by decide +kernel
theorem dX12_conditionOne_120 : decode cX12_conditionOne 120 = .ok (.aload_n 0, 1) := by decide +kernel
theorem dX12_conditionOne_121 : decode cX12_conditionOne 121 = .ok (.bipush 29, 2) := by decide +kernel
theorem dX12_conditionOne_123 : decode cX12_conditionOne 123 = .ok (.invokevirtual 378, 3) := by decide +kernel
theorem dX12_conditionOne_126 : decode cX12_conditionOne 126 = .ok (.ifCond .eq 17, 3) := by decide +kernel
theorem dX12_conditionOne_129 : decode cX12_conditionOne 129 = .ok (.aload_n 0, 1) := by decide +kernel
theorem dX12_conditionOne_130 : decode cX12_conditionOne 130 = .ok (.iconst 0, 1) := by decide +kernel
theorem dX12_conditionOne_131 : decode cX12_conditionOne 131 = .ok (.bipush 64, 2) := by decide +kernel
theorem dX12_conditionOne_133 : decode cX12_conditionOne 133 = .ok (.invokevirtual 384, 3) := by decide +kernel
theorem dX12_conditionOne_136 : decode cX12_conditionOne 136 = .ok (.ifCond .eq 7, 3) := by decide +kernel
theorem dX12_conditionOne_139 : decode cX12_conditionOne 139 = .ok (.iconst 1, 1) := by decide +kernel
theorem dX12_conditionOne_140 : decode cX12_conditionOne 140 = .ok (.goto 4, 3) := by decide +kernel
theorem dX12_conditionOne_143 : decode cX12_conditionOne 143 = .ok (.iconst 0, 1) := by decide +kernel
theorem dX12_conditionOne_144 : decode cX12_conditionOne 144 = .ok (.ireturn, 1) := by decide +kernel
theorem dX12_conditionOne_145 : decode cX12_conditionOne 145 = .ok (.aload_n 0, 1) := by decide +kernel
theorem dX12_conditionOne_146 : decode cX12_conditionOne 146 = .ok (.bipush 30, 2) := by decide +kernel
theorem dX12_conditionOne_148 : decode cX12_conditionOne 148 = .ok (.invokevirtual 326, 3) := by decide +kernel
theorem dX12_conditionOne_151 : decode cX12_conditionOne 151 = .ok (.ifCond .eq 35, 3) := by decide +kernel
theorem dX12_conditionOne_154 : decode cX12_conditionOne 154 = .ok (.aload_n 0, 1) := by decide +kernel
theorem dX12_conditionOne_155 : decode cX12_conditionOne 155 = .ok (.bipush 30, 2) := by decide +kernel
theorem dX12_conditionOne_157 : decode cX12_conditionOne 157 = .ok (.invokevirtual 329, 3) := by decide +kernel
theorem dX12_conditionOne_160 : decode cX12_conditionOne 160 = .ok (.ifCond .eq 22, 3) := by decide +kernel
theorem dX12_conditionOne_163 : decode cX12_conditionOne 163 = .ok (.aload_n 0, 1) := by decide +kernel
theorem dX12_conditionOne_164 : decode cX12_conditionOne 164 = .ok (.iconst 0, 1) := by decide +kernel
theorem dX12_conditionOne_165 : decode cX12_conditionOne 165 = .ok (.invokevirtual 381, 3) := by decide +kernel
theorem dX12_conditionOne_168 : decode cX12_conditionOne 168 = .ok (.ifCond .eq 14, 3) := by decide +kernel
theorem dX12_conditionOne_171 : decode cX12_conditionOne 171 = .ok (.aload_n 0, 1) := by decide +kernel
theorem dX12_conditionOne_172 : decode cX12_conditionOne 172 = .ok (.invokevirtual 410, 3) := by decide +kernel
theorem dX12_conditionOne_175 : decode cX12_conditionOne 175 = .ok (.ifCond .eq 7, 3) := by decide +kernel
theorem dX12_conditionOne_178 : decode cX12_conditionOne 178 = .ok (.iconst 1, 1) := by decide +kernel
theorem dX12_conditionOne_179 : decode cX12_conditionOne 179 = .ok (.goto 12, 3) := by decide +kernel
theorem dX12_conditionOne_182 : decode cX12_conditionOne 182 = .ok (.iconst 0, 1) := by decide +kernel
theorem dX12_conditionOne_183 : decode cX12_conditionOne 183 = .ok (.goto 8, 3) := by decide +kernel
theorem dX12_conditionOne_186 : decode cX12_conditionOne 186 = .ok (.aload_n 0, 1) := by decide +kernel
theorem dX12_conditionOne_187 : decode cX12_conditionOne 187 = .ok (.iconst 1, 1) := by decide +kernel
theorem dX12_conditionOne_188 : decode cX12_conditionOne 188 = .ok (.invokevirtual 317, 3) := by decide +kernel
theorem dX12_conditionOne_191 : decode cX12_conditionOne 191 = .ok (.ireturn, 1) := by decide +kernel
def o_X12_conditionOne (N : Nat) (fo_condition : (St → Option (Int × St))) (fo_conditionOne : (St → Option (Int × St))) (t : St) : Option (Int × St) :=
    bdI (f_X12_isSign N 40 t) fun v2 t1 =>
    cmpI v2 0 (if v2 = 0 then (bdI (f_X12_isKey N 26 t1) fun v4 t3 =>
    cmpI v4 0 (if v4 = 0 then (bdI (f_X12_isKey N 27 t3) fun v6 t5 =>
    cmpI v6 0 (if v6 = 0 then (bdI (f_X12_isKey N 28 t5) fun v8 t7 =>
    cmpI v8 0 (if v8 = 0 then (bdI (f_X12_isKey N 30 t7) fun v10 t9 =>
    cmpI v10 0 (if v10 = 0 then (bdI (f_X12_wrong N 1 t9) fun v12 t11 =>
    boI v12 (some (v12, t11)))
    else (bdI (f_X12_takes N 30 t9) fun v14 t13 =>
    cmpI v14 0 (if v14 = 0 then (boI 0 (some (0, t13)))
    else (bdI (f_X12_knownName N 0 t13) fun v16 t15 =>
    cmpI v16 0 (if v16 = 0 then (boI 0 (some (0, t15)))
    else (bdI (f_X12_whoText N t15) fun v18 t17 =>
    cmpI v18 0 (if v18 = 0 then (boI 0 (some (0, t17)))
    else (boI 1 (some (1, t17)))))))))))
    else (bdI (f_X12_takes N 28 t7) fun v20 t19 =>
    cmpI v20 0 (if v20 = 0 then (boI 0 (some (0, t19)))
    else (bdI (f_X12_whoText N t19) fun v22 t21 =>
    cmpI v22 0 (if v22 = 0 then (boI 0 (some (0, t21)))
    else (bdI (f_X12_key N 29 t21) fun v24 t23 =>
    cmpI v24 0 (if v24 = 0 then (boI 0 (some (0, t23)))
    else (bdI (f_X12_number N 0 64 t23) fun v26 t25 =>
    cmpI v26 0 (if v26 = 0 then (boI 0 (some (0, t25)))
    else (boI 1 (some (1, t25)))))))))))))
    else (bdI (f_X12_takes N 27 t5) fun v28 t27 =>
    boI v28 (some (v28, t27)))))
    else (bdI (f_X12_opens N 26 t3) fun v30 t29 =>
    cmpI v30 0 (if v30 = 0 then (boI 0 (some (0, t29)))
    else (bdI (fo_conditionOne t29) fun v32 t31 =>
    cmpI v32 0 (if v32 = 0 then (boI 0 (some (0, t31)))
    else (lt1 (t31.1 200 35) fun v33 =>
    lt1 (pI t31 200 35 (v33 - 1)) fun t34 =>
    boI 1 (some (1, t34)))))))))
    else (bdI (f_X12_opensBy N 40 t1) fun v36 t35 =>
    cmpI v36 0 (if v36 = 0 then (boI 0 (some (0, t35)))
    else (bdI (fo_condition t35) fun v38 t37 =>
    cmpI v38 0 (if v38 = 0 then (boI 0 (some (0, t37)))
    else (bdI (f_X12_closesBy N 41 t37) fun v40 t39 =>
    cmpI v40 0 (if v40 = 0 then (boI 0 (some (0, t39)))
    else (boI 1 (some (1, t39))))))))))
set_option maxHeartbeats 4000000 in
set_option maxRecDepth 100000 in
theorem b_o_X12_conditionOne {p : Program} {l : Launch} {e : Env} {s : State} {m : MethodId} {args : Array Value} {below : List Frame} {meth : Method} {c : Code} {E : cE} {A : Nat → Prop} {r : Nat → Nat} {mc ms : Nat} {z : Int × St} {N : Nat} {D9 : Nat} {fo_condition : (St → Option (Int × St))} {fo_conditionOne : (St → Option (Int × St))} (ho_condition : ∀ (t : St) (z : Int × St), fo_condition t = some z → cM l E yX12_condition cX12_condition 1 (some .boolean) (rmS_condition D9) [.ref (r 200)] (gW E r shM t) (gqI E (gW E r shM) z)) (ho_conditionOne : ∀ (t : St) (z : Int × St), fo_conditionOne t = some z → cM l E yX12_conditionOne cX12_conditionOne 1 (some .boolean) (rmS_condition D9) [.ref (r 200)] (gW E r shM t) (gqI E (gW E r shM) z)) {t : St} (X : gX p s m meth c cX12_conditionOne 1 (some .boolean) yX12_conditionOne args E A) (h : o_X12_conditionOne N fo_condition fo_conditionOne t = some z) : gP p l e (rmS_condition (D9 + 1)) s m args below meth c E A 1 (MQ below ((gqI E (gW E r shM) z) A) args s mc ms A) (gW E r shM) 0 [(0, .ref (r 200))] [] t := by
  unfold o_X12_conditionOne at h
  refine g_aload_n X dX12_conditionOne_0 0 rfl ?_
  refine g_bipush X dX12_conditionOne_1 (by decide) ?_
  refine g_callI (rest := []) X (fun u9 h9 => cp_X12_isSign l E r N 40 t u9 h9) yy_X12_isSign yi_X12_isSign wdM_RX12_332 0 12 (gW_at oM) rfl rfl rfl (Nat.le_of_ble_eq_true rfl) dX12_conditionOne_3 ⟨by show 0 + 1 ≤ D9 + 1 + 112; omega, by show 8 + (2 + 11) + 0 ≤ 60 * (D9 + 1) + 6330; omega⟩ ⟨rfl, rfl⟩ h (fun v2 t1 h => ?_)
  refine g_if_eq (tgt := 40) X dX12_conditionOne_6 (by decide) h (fun h => ?_) (fun h => ?_)
  · refine g_aload_n X dX12_conditionOne_40 0 rfl ?_
    refine g_bipush X dX12_conditionOne_41 (by decide) ?_
    refine g_callI (rest := []) X (fun u9 h9 => cp_X12_isKey l E r N 26 t1 u9 h9) yy_X12_isKey yi_X12_isKey wdM_RX12_326 0 12 (gW_at oM) rfl rfl rfl (Nat.le_of_ble_eq_true rfl) dX12_conditionOne_43 ⟨by show 0 + 1 ≤ D9 + 1 + 112; omega, by show 8 + (2 + 11) + 0 ≤ 60 * (D9 + 1) + 6330; omega⟩ ⟨rfl, rfl⟩ h (fun v4 t3 h => ?_)
    refine g_if_eq (tgt := 79) X dX12_conditionOne_46 (by decide) h (fun h => ?_) (fun h => ?_)
    · refine g_aload_n X dX12_conditionOne_79 0 rfl ?_
      refine g_bipush X dX12_conditionOne_80 (by decide) ?_
      refine g_callI (rest := []) X (fun u9 h9 => cp_X12_isKey l E r N 27 t3 u9 h9) yy_X12_isKey yi_X12_isKey wdM_RX12_326 0 12 (gW_at oM) rfl rfl rfl (Nat.le_of_ble_eq_true rfl) dX12_conditionOne_82 ⟨by show 0 + 1 ≤ D9 + 1 + 112; omega, by show 8 + (2 + 11) + 0 ≤ 60 * (D9 + 1) + 6330; omega⟩ ⟨rfl, rfl⟩ h (fun v6 t5 h => ?_)
      refine g_if_eq (tgt := 95) X dX12_conditionOne_85 (by decide) h (fun h => ?_) (fun h => ?_)
      · refine g_aload_n X dX12_conditionOne_95 0 rfl ?_
        refine g_bipush X dX12_conditionOne_96 (by decide) ?_
        refine g_callI (rest := []) X (fun u9 h9 => cp_X12_isKey l E r N 28 t5 u9 h9) yy_X12_isKey yi_X12_isKey wdM_RX12_326 0 12 (gW_at oM) rfl rfl rfl (Nat.le_of_ble_eq_true rfl) dX12_conditionOne_98 ⟨by show 0 + 1 ≤ D9 + 1 + 112; omega, by show 8 + (2 + 11) + 0 ≤ 60 * (D9 + 1) + 6330; omega⟩ ⟨rfl, rfl⟩ h (fun v8 t7 h => ?_)
        refine g_if_eq (tgt := 145) X dX12_conditionOne_101 (by decide) h (fun h => ?_) (fun h => ?_)
        · refine g_aload_n X dX12_conditionOne_145 0 rfl ?_
          refine g_bipush X dX12_conditionOne_146 (by decide) ?_
          refine g_callI (rest := []) X (fun u9 h9 => cp_X12_isKey l E r N 30 t7 u9 h9) yy_X12_isKey yi_X12_isKey wdM_RX12_326 0 12 (gW_at oM) rfl rfl rfl (Nat.le_of_ble_eq_true rfl) dX12_conditionOne_148 ⟨by show 0 + 1 ≤ D9 + 1 + 112; omega, by show 8 + (2 + 11) + 0 ≤ 60 * (D9 + 1) + 6330; omega⟩ ⟨rfl, rfl⟩ h (fun v10 t9 h => ?_)
          refine g_if_eq (tgt := 186) X dX12_conditionOne_151 (by decide) h (fun h => ?_) (fun h => ?_)
          · refine g_aload_n X dX12_conditionOne_186 0 rfl ?_
            refine g_iconst X dX12_conditionOne_187 ?_
            refine g_callI (rest := []) X (fun u9 h9 => cp_X12_wrong l E r N 1 t9 u9 h9) yy_X12_wrong yi_X12_wrong wdM_RX12_317 0 12 (gW_at oM) rfl rfl rfl (Nat.le_of_ble_eq_true rfl) dX12_conditionOne_188 ⟨by show 0 + 1 ≤ D9 + 1 + 112; omega, by show 8 + (2 + 11) + 0 ≤ 60 * (D9 + 1) + 6330; omega⟩ ⟨rfl, rfl⟩ h (fun v12 t11 h => ?_)
            exact g_zret X h dX12_conditionOne_191
          · refine g_aload_n X dX12_conditionOne_154 0 rfl ?_
            refine g_bipush X dX12_conditionOne_155 (by decide) ?_
            refine g_callI (rest := []) X (fun u9 h9 => cp_X12_takes l E r N 30 t9 u9 h9) yy_X12_takes yi_X12_takes wdM_RX12_329 0 12 (gW_at oM) rfl rfl rfl (Nat.le_of_ble_eq_true rfl) dX12_conditionOne_157 ⟨by show 8 + 1 ≤ D9 + 1 + 112; omega, by show 8 + (2 + 11) + 247 ≤ 60 * (D9 + 1) + 6330; omega⟩ ⟨rfl, rfl⟩ h (fun v14 t13 h => ?_)
            refine g_if_eq (tgt := 182) X dX12_conditionOne_160 (by decide) h (fun h => ?_) (fun h => ?_)
            · refine g_iconst X dX12_conditionOne_182 ?_
              refine g_goto (tgt := 191) X dX12_conditionOne_183 (by decide) ?_
              exact g_zret X h dX12_conditionOne_191
            · refine g_aload_n X dX12_conditionOne_163 0 rfl ?_
              refine g_iconst X dX12_conditionOne_164 ?_
              refine g_callI (rest := []) X (fun u9 h9 => cp_X12_knownName l E r N 0 t13 u9 h9) yy_X12_knownName yi_X12_knownName wdM_RX12_381 0 12 (gW_at oM) rfl rfl rfl (Nat.le_of_ble_eq_true rfl) dX12_conditionOne_165 ⟨by show 9 + 1 ≤ D9 + 1 + 112; omega, by show 8 + (3 + 11) + 268 ≤ 60 * (D9 + 1) + 6330; omega⟩ ⟨rfl, rfl⟩ h (fun v16 t15 h => ?_)
              refine g_if_eq (tgt := 182) X dX12_conditionOne_168 (by decide) h (fun h => ?_) (fun h => ?_)
              · refine g_iconst X dX12_conditionOne_182 ?_
                refine g_goto (tgt := 191) X dX12_conditionOne_183 (by decide) ?_
                exact g_zret X h dX12_conditionOne_191
              · refine g_aload_n X dX12_conditionOne_171 0 rfl ?_
                refine g_callI (rest := []) X (fun u9 h9 => cp_X12_whoText l E r N t15 u9 h9) yy_X12_whoText yi_X12_whoText wdM_RX12_410 0 12 (gW_at oM) rfl rfl rfl (Nat.le_of_ble_eq_true rfl) dX12_conditionOne_172 ⟨by show 111 + 1 ≤ D9 + 1 + 112; omega, by show 8 + (1 + 11) + 6310 ≤ 60 * (D9 + 1) + 6330; omega⟩ ⟨rfl, rfl⟩ h (fun v18 t17 h => ?_)
                refine g_if_eq (tgt := 182) X dX12_conditionOne_175 (by decide) h (fun h => ?_) (fun h => ?_)
                · refine g_iconst X dX12_conditionOne_182 ?_
                  refine g_goto (tgt := 191) X dX12_conditionOne_183 (by decide) ?_
                  exact g_zret X h dX12_conditionOne_191
                · refine g_iconst X dX12_conditionOne_178 ?_
                  refine g_goto (tgt := 191) X dX12_conditionOne_179 (by decide) ?_
                  exact g_zret X h dX12_conditionOne_191
        · refine g_aload_n X dX12_conditionOne_104 0 rfl ?_
          refine g_bipush X dX12_conditionOne_105 (by decide) ?_
          refine g_callI (rest := []) X (fun u9 h9 => cp_X12_takes l E r N 28 t7 u9 h9) yy_X12_takes yi_X12_takes wdM_RX12_329 0 12 (gW_at oM) rfl rfl rfl (Nat.le_of_ble_eq_true rfl) dX12_conditionOne_107 ⟨by show 8 + 1 ≤ D9 + 1 + 112; omega, by show 8 + (2 + 11) + 247 ≤ 60 * (D9 + 1) + 6330; omega⟩ ⟨rfl, rfl⟩ h (fun v20 t19 h => ?_)
          refine g_if_eq (tgt := 143) X dX12_conditionOne_110 (by decide) h (fun h => ?_) (fun h => ?_)
          · refine g_iconst X dX12_conditionOne_143 ?_
            exact g_zret X h dX12_conditionOne_144
          · refine g_aload_n X dX12_conditionOne_113 0 rfl ?_
            refine g_callI (rest := []) X (fun u9 h9 => cp_X12_whoText l E r N t19 u9 h9) yy_X12_whoText yi_X12_whoText wdM_RX12_410 0 12 (gW_at oM) rfl rfl rfl (Nat.le_of_ble_eq_true rfl) dX12_conditionOne_114 ⟨by show 111 + 1 ≤ D9 + 1 + 112; omega, by show 8 + (1 + 11) + 6310 ≤ 60 * (D9 + 1) + 6330; omega⟩ ⟨rfl, rfl⟩ h (fun v22 t21 h => ?_)
            refine g_if_eq (tgt := 143) X dX12_conditionOne_117 (by decide) h (fun h => ?_) (fun h => ?_)
            · refine g_iconst X dX12_conditionOne_143 ?_
              exact g_zret X h dX12_conditionOne_144
            · refine g_aload_n X dX12_conditionOne_120 0 rfl ?_
              refine g_bipush X dX12_conditionOne_121 (by decide) ?_
              refine g_callI (rest := []) X (fun u9 h9 => cp_X12_key l E r N 29 t21 u9 h9) yy_X12_key yi_X12_key wdM_RX12_378 0 12 (gW_at oM) rfl rfl rfl (Nat.le_of_ble_eq_true rfl) dX12_conditionOne_123 ⟨by show 9 + 1 ≤ D9 + 1 + 112; omega, by show 8 + (2 + 11) + 268 ≤ 60 * (D9 + 1) + 6330; omega⟩ ⟨rfl, rfl⟩ h (fun v24 t23 h => ?_)
              refine g_if_eq (tgt := 143) X dX12_conditionOne_126 (by decide) h (fun h => ?_) (fun h => ?_)
              · refine g_iconst X dX12_conditionOne_143 ?_
                exact g_zret X h dX12_conditionOne_144
              · refine g_aload_n X dX12_conditionOne_129 0 rfl ?_
                refine g_iconst X dX12_conditionOne_130 ?_
                refine g_bipush X dX12_conditionOne_131 (by decide) ?_
                refine g_callI (rest := []) X (fun u9 h9 => cp_X12_number l E r N 0 64 t23 u9 h9) yy_X12_number yi_X12_number wdM_RX12_384 0 12 (gW_at oM) rfl rfl rfl (Nat.le_of_ble_eq_true rfl) dX12_conditionOne_133 ⟨by show 9 + 1 ≤ D9 + 1 + 112; omega, by show 8 + (3 + 11) + 268 ≤ 60 * (D9 + 1) + 6330; omega⟩ ⟨rfl, rfl⟩ h (fun v26 t25 h => ?_)
                refine g_if_eq (tgt := 143) X dX12_conditionOne_136 (by decide) h (fun h => ?_) (fun h => ?_)
                · refine g_iconst X dX12_conditionOne_143 ?_
                  exact g_zret X h dX12_conditionOne_144
                · refine g_iconst X dX12_conditionOne_139 ?_
                  refine g_goto (tgt := 144) X dX12_conditionOne_140 (by decide) ?_
                  exact g_zret X h dX12_conditionOne_144
      · refine g_aload_n X dX12_conditionOne_88 0 rfl ?_
        refine g_bipush X dX12_conditionOne_89 (by decide) ?_
        refine g_callI (rest := []) X (fun u9 h9 => cp_X12_takes l E r N 27 t5 u9 h9) yy_X12_takes yi_X12_takes wdM_RX12_329 0 12 (gW_at oM) rfl rfl rfl (Nat.le_of_ble_eq_true rfl) dX12_conditionOne_91 ⟨by show 8 + 1 ≤ D9 + 1 + 112; omega, by show 8 + (2 + 11) + 247 ≤ 60 * (D9 + 1) + 6330; omega⟩ ⟨rfl, rfl⟩ h (fun v28 t27 h => ?_)
        exact g_zret X h dX12_conditionOne_94
    · refine g_aload_n X dX12_conditionOne_49 0 rfl ?_
      refine g_bipush X dX12_conditionOne_50 (by decide) ?_
      refine g_callI (rest := []) X (fun u9 h9 => cp_X12_opens l E r N 26 t3 u9 h9) yy_X12_opens yi_X12_opens wdM_RX12_341 0 12 (gW_at oM) rfl rfl rfl (Nat.le_of_ble_eq_true rfl) dX12_conditionOne_52 ⟨by show 9 + 1 ≤ D9 + 1 + 112; omega, by show 8 + (2 + 11) + 268 ≤ 60 * (D9 + 1) + 6330; omega⟩ ⟨rfl, rfl⟩ h (fun v30 t29 h => ?_)
      refine g_if_eq (tgt := 65) X dX12_conditionOne_55 (by decide) h (fun h => ?_) (fun h => ?_)
      · refine g_iconst X dX12_conditionOne_65 ?_
        exact g_zret X h dX12_conditionOne_66
      · refine g_aload_n X dX12_conditionOne_58 0 rfl ?_
        refine g_callI (rest := []) X (fun u9 h9 => ho_conditionOne t29 u9 h9) yy_X12_conditionOne yi_X12_conditionOne wdM_RX12_422 0 12 (gW_at oM) rfl rfl rfl (Nat.le_of_ble_eq_true rfl) dX12_conditionOne_59 ⟨by show D9 + 112 + 1 ≤ D9 + 1 + 112; omega, by show 8 + (1 + 11) + (60 * D9 + 6330) ≤ 60 * (D9 + 1) + 6330; omega⟩ ⟨rfl, rfl⟩ h (fun v32 t31 h => ?_)
        refine g_if_ne (tgt := 67) X dX12_conditionOne_62 (by decide) h (fun h => ?_) (fun h => ?_)
        · refine g_aload_n X dX12_conditionOne_67 0 rfl ?_
          refine g_dup X rfl dX12_conditionOne_68 ?_
          refine g_getI X fM_35 rfl dX12_conditionOne_69 h (fun v33 h => ?_)
          refine g_iconst X dX12_conditionOne_72 ?_
          refine g_isub X dX12_conditionOne_73 ?_
          refine g_putI X fM_35w rfl dX12_conditionOne_74 h (fun t34 h => ?_)
          refine g_iconst X dX12_conditionOne_77 ?_
          exact g_zret X h dX12_conditionOne_78
        · refine g_iconst X dX12_conditionOne_65 ?_
          exact g_zret X h dX12_conditionOne_66
  · refine g_aload_n X dX12_conditionOne_9 0 rfl ?_
    refine g_bipush X dX12_conditionOne_10 (by decide) ?_
    refine g_callI (rest := []) X (fun u9 h9 => cp_X12_opensBy l E r N 40 t1 u9 h9) yy_X12_opensBy yi_X12_opensBy wdM_RX12_398 0 12 (gW_at oM) rfl rfl rfl (Nat.le_of_ble_eq_true rfl) dX12_conditionOne_12 ⟨by show 10 + 1 ≤ D9 + 1 + 112; omega, by show 8 + (2 + 11) + 289 ≤ 60 * (D9 + 1) + 6330; omega⟩ ⟨rfl, rfl⟩ h (fun v36 t35 h => ?_)
    refine g_if_eq (tgt := 38) X dX12_conditionOne_15 (by decide) h (fun h => ?_) (fun h => ?_)
    · refine g_iconst X dX12_conditionOne_38 ?_
      exact g_zret X h dX12_conditionOne_39
    · refine g_aload_n X dX12_conditionOne_18 0 rfl ?_
      refine g_callI (rest := []) X (fun u9 h9 => ho_condition t35 u9 h9) yy_X12_condition yi_X12_condition wdM_RX12_407 0 12 (gW_at oM) rfl rfl rfl (Nat.le_of_ble_eq_true rfl) dX12_conditionOne_19 ⟨by show D9 + 112 + 1 ≤ D9 + 1 + 112; omega, by show 8 + (1 + 11) + (60 * D9 + 6330) ≤ 60 * (D9 + 1) + 6330; omega⟩ ⟨rfl, rfl⟩ h (fun v38 t37 h => ?_)
      refine g_if_eq (tgt := 38) X dX12_conditionOne_22 (by decide) h (fun h => ?_) (fun h => ?_)
      · refine g_iconst X dX12_conditionOne_38 ?_
        exact g_zret X h dX12_conditionOne_39
      · refine g_aload_n X dX12_conditionOne_25 0 rfl ?_
        refine g_bipush X dX12_conditionOne_26 (by decide) ?_
        refine g_callI (rest := []) X (fun u9 h9 => cp_X12_closesBy l E r N 41 t37 u9 h9) yy_X12_closesBy yi_X12_closesBy wdM_RX12_404 0 12 (gW_at oM) rfl rfl rfl (Nat.le_of_ble_eq_true rfl) dX12_conditionOne_28 ⟨by show 10 + 1 ≤ D9 + 1 + 112; omega, by show 8 + (2 + 11) + 289 ≤ 60 * (D9 + 1) + 6330; omega⟩ ⟨rfl, rfl⟩ h (fun v40 t39 h => ?_)
        refine g_if_eq (tgt := 38) X dX12_conditionOne_31 (by decide) h (fun h => ?_) (fun h => ?_)
        · refine g_iconst X dX12_conditionOne_38 ?_
          exact g_zret X h dX12_conditionOne_39
        · refine g_iconst X dX12_conditionOne_34 ?_
          refine g_goto (tgt := 39) X dX12_conditionOne_35 (by decide) ?_
          exact g_zret X h dX12_conditionOne_39
set_option maxHeartbeats 4000000 in
set_option maxRecDepth 100000 in
theorem cpo_X12_conditionOne (l : Launch) (E : cE) (r : Nat → Nat) (N : Nat) (D9 : Nat) (fo_condition : (St → Option (Int × St))) (fo_conditionOne : (St → Option (Int × St))) (ho_condition : ∀ (t : St) (z : Int × St), fo_condition t = some z → cM l E yX12_condition cX12_condition 1 (some .boolean) (rmS_condition D9) [.ref (r 200)] (gW E r shM t) (gqI E (gW E r shM) z)) (ho_conditionOne : ∀ (t : St) (z : Int × St), fo_conditionOne t = some z → cM l E yX12_conditionOne cX12_conditionOne 1 (some .boolean) (rmS_condition D9) [.ref (r 200)] (gW E r shM t) (gqI E (gW E r shM) z)) (t : St) (z : Int × St) (h : o_X12_conditionOne N fo_condition fo_conditionOne t = some z) : cM l E yX12_conditionOne cX12_conditionOne 1 (some .boolean) (rmS_condition (D9 + 1)) [.ref (r 200)] (gW E r shM t) (gqI E (gW E r shM) z) := by
  refine g_of (w := gW E r shM) (by decide) (Nat.le_of_ble_eq_true rfl) ?_
  intro p e s m below meth c A X
  exact g_sub (lv' := [(0, .ref (r 200))]) [0] rfl (b_o_X12_conditionOne ho_condition ho_conditionOne X h)
def rec_condition (N : Nat) : Nat → (St → Option (Int × St)) × (St → Option (Int × St)) × (St → Option (Int × St))
  | 0 => (fun _ => none, fun _ => none, fun _ => none)
  | D + 1 => (o_X12_condition N (rec_condition N D).2.1, o_X12_conditionAnd N (rec_condition N D).2.2, o_X12_conditionOne N (rec_condition N D).1 (rec_condition N D).2.2)
theorem rec_condition_ok (l : Launch) (E : cE) (r : Nat → Nat) (N : Nat) : ∀ D : Nat, (∀ (t : St) (z : Int × St), (rec_condition N D).1 t = some z → cM l E yX12_condition cX12_condition 1 (some .boolean) (rmS_condition D) [.ref (r 200)] (gW E r shM t) (gqI E (gW E r shM) z)) ∧ (∀ (t : St) (z : Int × St), (rec_condition N D).2.1 t = some z → cM l E yX12_conditionAnd cX12_conditionAnd 1 (some .boolean) (rmS_condition D) [.ref (r 200)] (gW E r shM t) (gqI E (gW E r shM) z)) ∧ (∀ (t : St) (z : Int × St), (rec_condition N D).2.2 t = some z → cM l E yX12_conditionOne cX12_conditionOne 1 (some .boolean) (rmS_condition D) [.ref (r 200)] (gW E r shM t) (gqI E (gW E r shM) z)) := by
  intro D
  induction D with
  | zero => exact ⟨fun _ _ h => (by cases h), fun _ _ h => (by cases h), fun _ _ h => (by cases h)⟩
  | succ D ih => exact ⟨fun t z h => cpo_X12_condition l E r N D _ ih.2.1 t z h, fun t z h => cpo_X12_conditionAnd l E r N D _ ih.2.2 t z h, fun t z h => cpo_X12_conditionOne l E r N D _ _ ih.1 ih.2.2 t z h⟩
def f_X12_condition (N : Nat) (t : St) : Option (Int × St) := (rec_condition N 100).1 t
abbrev rm_f_X12_condition : Room := { frames := 212, cells := 0, slots := 0, locals := 12330 }
theorem cp_X12_condition (l : Launch) (E : cE) (r : Nat → Nat) (N : Nat) (t : St) (z : Int × St) (h : f_X12_condition N t = some z) : cM l E yX12_condition cX12_condition 1 (some .boolean) rm_f_X12_condition [.ref (r 200)] (gW E r shM t) (gqI E (gW E r shM) z) := (rec_condition_ok l E r N 100).1 t z h
def f_X12_conditionAnd (N : Nat) (t : St) : Option (Int × St) := (rec_condition N 100).2.1 t
abbrev rm_f_X12_conditionAnd : Room := { frames := 212, cells := 0, slots := 0, locals := 12330 }
theorem cp_X12_conditionAnd (l : Launch) (E : cE) (r : Nat → Nat) (N : Nat) (t : St) (z : Int × St) (h : f_X12_conditionAnd N t = some z) : cM l E yX12_conditionAnd cX12_conditionAnd 1 (some .boolean) rm_f_X12_conditionAnd [.ref (r 200)] (gW E r shM t) (gqI E (gW E r shM) z) := (rec_condition_ok l E r N 100).2.1 t z h
def f_X12_conditionOne (N : Nat) (t : St) : Option (Int × St) := (rec_condition N 100).2.2 t
abbrev rm_f_X12_conditionOne : Room := { frames := 212, cells := 0, slots := 0, locals := 12330 }
theorem cp_X12_conditionOne (l : Launch) (E : cE) (r : Nat → Nat) (N : Nat) (t : St) (z : Int × St) (h : f_X12_conditionOne N t = some z) : cM l E yX12_conditionOne cX12_conditionOne 1 (some .boolean) rm_f_X12_conditionOne [.ref (r 200)] (gW E r shM t) (gqI E (gW E r shM) z) := (rec_condition_ok l E r N 100).2.2 t z h
theorem dX12_stepText_0 : decode cX12_stepText 0 = .ok (.iconst 0, 1) := by decide +kernel
theorem dX12_stepText_1 : decode cX12_stepText 1 = .ok (.istore_n 1, 1) := by decide +kernel
theorem dX12_stepText_2 : decode cX12_stepText 2 = .ok (.iconst 1, 1) := by decide +kernel
theorem dX12_stepText_3 : decode cX12_stepText 3 = .ok (.istore_n 2, 1) := by decide +kernel
theorem dX12_stepText_4 : decode cX12_stepText 4 = .ok (.iload_n 2, 1) := by decide +kernel
theorem dX12_stepText_5 : decode cX12_stepText 5 = .ok (.ifCond .eq 60, 3) := by decide +kernel
theorem dX12_stepText_8 : decode cX12_stepText 8 = .ok (.aload_n 0, 1) := by decide +kernel
theorem dX12_stepText_9 : decode cX12_stepText 9 = .ok (.invokevirtual 410, 3) := by decide +kernel
theorem dX12_stepText_12 : decode cX12_stepText 12 = .ok (.ifCond .eq 11, 3) := by decide +kernel
theorem dX12_stepText_15 : decode cX12_stepText 15 = .ok (.aload_n 0, 1) := by decide +kernel
theorem dX12_stepText_16 : decode cX12_stepText 16 = .ok (.iconst 1, 1) := by decide +kernel
theorem dX12_stepText_17 : decode cX12_stepText 17 = .ok (.invokevirtual 381, 3) := by decide +kernel
theorem dX12_stepText_20 : decode cX12_stepText 20 = .ok (.ifCond .ne 5, 3) := by decide +kernel
theorem dX12_stepText_23 : decode cX12_stepText 23 = .ok (.iconst 0, 1) := by decide +kernel
theorem dX12_stepText_24 : decode cX12_stepText 24 = .ok (.ireturn, 1) := by decide +kernel
theorem dX12_stepText_25 : decode cX12_stepText 25 = .ok (.iinc 1 1, 3) := by decide +kernel
theorem dX12_stepText_28 : decode cX12_stepText 28 = .ok (.aload_n 0, 1) := by decide +kernel
theorem dX12_stepText_29 : decode cX12_stepText 29 = .ok (.bipush 38, 2) := by decide +kernel
theorem dX12_stepText_31 : decode cX12_stepText 31 = .ok (.invokevirtual 332, 3) := by decide +kernel
theorem dX12_stepText_34 : decode cX12_stepText 34 = .ok (.istore_n 2, 1) := by decide +kernel
theorem dX12_stepText_35 : decode cX12_stepText 35 = .ok (.iload_n 2, 1) := by decide +kernel
theorem dX12_stepText_36 : decode cX12_stepText 36 = .ok (.ifCond .eq 14, 3) := by decide +kernel
theorem dX12_stepText_39 : decode cX12_stepText 39 = .ok (.iload_n 1, 1) := by decide +kernel
theorem dX12_stepText_40 : decode cX12_stepText 40 = .ok (.iconst 4, 1) := by decide +kernel
theorem dX12_stepText_41 : decode cX12_stepText 41 = .ok (.if_icmp .ne 9, 3) := by decide +kernel
theorem dX12_stepText_44 : decode cX12_stepText 44 = .ok (.aload_n 0, 1) := by decide +kernel
theorem dX12_stepText_45 : decode cX12_stepText 45 = .ok (.iconst 5, 1) := by decide +kernel
theorem dX12_stepText_46 : decode cX12_stepText 46 = .ok (.invokevirtual 317, 3) := by decide +kernel
theorem dX12_stepText_49 : decode cX12_stepText 49 = .ok (.ireturn, 1) := by decide +kernel
theorem dX12_stepText_50 : decode cX12_stepText 50 = .ok (.iload_n 2, 1) := by decide +kernel
theorem dX12_stepText_51 : decode cX12_stepText 51 = .ok (.ifCond .eq (-47), 3) := by decide +kernel
theorem dX12_stepText_54 : decode cX12_stepText 54 = .ok (.aload_n 0, 1) := by decide +kernel
theorem dX12_stepText_55 : decode cX12_stepText 55 = .ok (.bipush 38, 2) := by decide +kernel
theorem dX12_stepText_57 : decode cX12_stepText 57 = .ok (.invokevirtual 344, 3) := by decide +kernel
theorem dX12_stepText_60 : decode cX12_stepText 60 = .ok (.ifCond .ne (-56), 3) := by decide +kernel
theorem dX12_stepText_63 : decode cX12_stepText 63 = .ok (.iconst 0, 1) := by decide +kernel
theorem dX12_stepText_64 : decode cX12_stepText 64 = .ok (.ireturn, 1) := by decide +kernel
theorem dX12_stepText_65 : decode cX12_stepText 65 = .ok (.iconst 1, 1) := by decide +kernel
theorem dX12_stepText_66 : decode cX12_stepText 66 = .ok (.ireturn, 1) := by decide +kernel
abbrev rm_f_X12_stepText : Room := { frames := 112, cells := 0, slots := 0, locals := 6330 }
def f_X12_stepText_L4 (N : Nat) (K4 : (St → Option (Int × St))) (K5 : (St → Option (Int × St))) : Nat → Int → Int → St → Option (Int × St)
  | 0, _, _, _ => none
  | n9 + 1, x1, x2, t3 =>
    cmpI x2 0 (if x2 = 0 then (K5 t3)
    else (bdI (f_X12_whoText N t3) fun v7 t6 =>
    cmpI v7 0 (if v7 = 0 then (boI 0 (some (0, t6)))
    else (bdI (f_X12_knownName N 1 t6) fun v9 t8 =>
    cmpI v9 0 (if v9 = 0 then (boI 0 (some (0, t8)))
    else (bdI (f_X12_isSign N 38 t8) fun v11 t10 =>
    jn1 (fun (t12 : St) => cmpI v11 0 (if v11 = 0 then (f_X12_stepText_L4 N K4 K5 n9 (x1 + 1) v11 t12)
    else (bdI (f_X12_sign N 38 t12) fun v15 t14 =>
    cmpI v15 0 (if v15 = 0 then (boI 0 (some (0, t14)))
    else (f_X12_stepText_L4 N K4 K5 n9 (x1 + 1) v11 t14))))) fun J13 =>
    cmpI v11 0 (if v11 = 0 then (J13 t10)
    else (cmpI (x1 + 1) 4 (if (x1 + 1) = 4 then (K4 t10)
    else (J13 t10))))))))))
def f_X12_stepText (N : Nat) (t : St) : Option (Int × St) :=
    f_X12_stepText_L4 N (fun (t16 : St) => bdI (f_X12_wrong N 5 t16) fun v18 t17 =>
    boI v18 (some (v18, t17))) (fun (t19 : St) => boI 1 (some (1, t19))) N 0 1 t
set_option maxHeartbeats 4000000 in
set_option maxRecDepth 100000 in
theorem t_f_X12_stepText_L4 {p : Program} {l : Launch} {e : Env} {s : State} {m : MethodId} {args : Array Value} {below : List Frame} {meth : Method} {c : Code} {E : cE} {A : Nat → Prop} {r : Nat → Nat} {mc ms : Nat} {z : Int × St} {N : Nat} {K4 : (St → Option (Int × St))} {K5 : (St → Option (Int × St))} (X : gX p s m meth c cX12_stepText 3 (some .boolean) yX12_stepText args E A) (hK4 : ∀ (t9 : St), K4 t9 = some z → gP p l e rm_f_X12_stepText s m args below meth c E A 3 (MQ below ((gqI E (gW E r shM) z) A) args s mc ms A) (gW E r shM) 44 [(0, .ref (r 200))] [] t9) (hK5 : ∀ (t9 : St), K5 t9 = some z → gP p l e rm_f_X12_stepText s m args below meth c E A 3 (MQ below ((gqI E (gW E r shM) z) A) args s mc ms A) (gW E r shM) 65 [] [] t9) : ∀ (n9 : Nat) (x1 : Int) (x2 : Int) (t3 : St), f_X12_stepText_L4 N K4 K5 n9 x1 x2 t3 = some z → gP p l e rm_f_X12_stepText s m args below meth c E A 3 (MQ below ((gqI E (gW E r shM) z) A) args s mc ms A) (gW E r shM) 4 [(0, .ref (r 200)), (1, iv x1), (2, iv x2)] [] t3 := by
  intro n9
  induction n9 with
  | zero => intro x1 x2 t3 h; cases h
  | succ n9 ih =>
    intro x1 x2 t3 h
    unfold f_X12_stepText_L4 at h
    refine g_iload_n X dX12_stepText_4 2 rfl ?_
    refine g_if_eq (tgt := 65) X dX12_stepText_5 (by decide) h (fun h => ?_) (fun h => ?_)
    · exact g_sub (lv' := []) [] rfl (hK5 t3 h)
    · refine g_aload_n X dX12_stepText_8 0 rfl ?_
      refine g_callI (rest := []) X (fun u9 h9 => cp_X12_whoText l E r N t3 u9 h9) yy_X12_whoText yi_X12_whoText wdM_RX12_410 0 12 (gW_at oM) rfl rfl rfl (Nat.le_of_ble_eq_true rfl) dX12_stepText_9 ⟨by decide, by decide⟩ ⟨rfl, rfl⟩ h (fun v7 t6 h => ?_)
      refine g_if_eq (tgt := 23) X dX12_stepText_12 (by decide) h (fun h => ?_) (fun h => ?_)
      · refine g_iconst X dX12_stepText_23 ?_
        exact g_zret X h dX12_stepText_24
      · refine g_aload_n X dX12_stepText_15 0 rfl ?_
        refine g_iconst X dX12_stepText_16 ?_
        refine g_callI (rest := []) X (fun u9 h9 => cp_X12_knownName l E r N 1 t6 u9 h9) yy_X12_knownName yi_X12_knownName wdM_RX12_381 0 12 (gW_at oM) rfl rfl rfl (Nat.le_of_ble_eq_true rfl) dX12_stepText_17 ⟨by decide, by decide⟩ ⟨rfl, rfl⟩ h (fun v9 t8 h => ?_)
        refine g_if_ne (tgt := 25) X dX12_stepText_20 (by decide) h (fun h => ?_) (fun h => ?_)
        · refine g_iinc (lv' := [(1, iv (x1 + 1)), (0, .ref (r 200)), (2, iv x2)]) X dX12_stepText_25 (k := 1) rfl (by decide) rfl ?_
          refine g_aload_n X dX12_stepText_28 1 rfl ?_
          refine g_bipush X dX12_stepText_29 (by decide) ?_
          refine g_callI (rest := []) X (fun u9 h9 => cp_X12_isSign l E r N 38 t8 u9 h9) yy_X12_isSign yi_X12_isSign wdM_RX12_332 0 12 (gW_at oM) rfl rfl rfl (Nat.le_of_ble_eq_true rfl) dX12_stepText_31 ⟨by decide, by decide⟩ ⟨rfl, rfl⟩ h (fun v11 t10 h => ?_)
          refine g_istore_n (lv' := [(2, iv v11), (1, iv (x1 + 1)), (0, .ref (r 200))]) X dX12_stepText_34 rfl (by decide) rfl ?_
          refine g_iload_n X dX12_stepText_35 0 rfl ?_
          refine g_join (J := fun jj => ∀ (t12 : St), jj  t12 = some z → gP p l e rm_f_X12_stepText s m args below meth c E A 3 (MQ below ((gqI E (gW E r shM) z) A) args s mc ms A) (gW E r shM) 50 [(0, .ref (r 200)), (1, iv (x1 + 1)), (2, iv v11)] [] t12) h (fun  t12 h => ?_) (fun J13 hJ13 h => ?_)
          · refine g_iload_n X dX12_stepText_50 2 rfl ?_
            refine g_if_eq (tgt := 4) X dX12_stepText_51 (by decide) h (fun h => ?_) (fun h => ?_)
            · exact g_sub (lv' := [(0, .ref (r 200)), (1, iv (x1 + 1)), (2, iv v11)]) [0, 1, 2] rfl (ih (x1 + 1) v11 t12 h)
            · refine g_aload_n X dX12_stepText_54 0 rfl ?_
              refine g_bipush X dX12_stepText_55 (by decide) ?_
              refine g_callI (rest := []) X (fun u9 h9 => cp_X12_sign l E r N 38 t12 u9 h9) yy_X12_sign yi_X12_sign wdM_RX12_344 0 12 (gW_at oM) rfl rfl rfl (Nat.le_of_ble_eq_true rfl) dX12_stepText_57 ⟨by decide, by decide⟩ ⟨rfl, rfl⟩ h (fun v15 t14 h => ?_)
              refine g_if_ne (tgt := 4) X dX12_stepText_60 (by decide) h (fun h => ?_) (fun h => ?_)
              · exact g_sub (lv' := [(0, .ref (r 200)), (1, iv (x1 + 1)), (2, iv v11)]) [0, 1, 2] rfl (ih (x1 + 1) v11 t14 h)
              · refine g_iconst X dX12_stepText_63 ?_
                exact g_zret X h dX12_stepText_64
          refine g_if_eq (tgt := 50) X dX12_stepText_36 (by decide) h (fun h => ?_) (fun h => ?_)
          · exact g_sub (lv' := [(0, .ref (r 200)), (1, iv (x1 + 1)), (2, iv v11)]) [2, 1, 0] rfl (hJ13 t10 h)
          · refine g_iload_n X dX12_stepText_39 1 rfl ?_
            refine g_iconst X dX12_stepText_40 ?_
            refine g_icmp_ne (tgt := 50) X dX12_stepText_41 (by decide) h (fun h => ?_) (fun h => ?_)
            · exact g_sub (lv' := [(0, .ref (r 200)), (1, iv (x1 + 1)), (2, iv v11)]) [2, 1, 0] rfl (hJ13 t10 h)
            · exact g_sub (lv' := [(0, .ref (r 200))]) [2] rfl (hK4 t10 h)
        · refine g_iconst X dX12_stepText_23 ?_
          exact g_zret X h dX12_stepText_24
set_option maxHeartbeats 4000000 in
set_option maxRecDepth 100000 in
theorem b_f_X12_stepText {p : Program} {l : Launch} {e : Env} {s : State} {m : MethodId} {args : Array Value} {below : List Frame} {meth : Method} {c : Code} {E : cE} {A : Nat → Prop} {r : Nat → Nat} {mc ms : Nat} {z : Int × St} {N : Nat} {t : St} (X : gX p s m meth c cX12_stepText 3 (some .boolean) yX12_stepText args E A) (h : f_X12_stepText N t = some z) : gP p l e rm_f_X12_stepText s m args below meth c E A 3 (MQ below ((gqI E (gW E r shM) z) A) args s mc ms A) (gW E r shM) 0 [(0, .ref (r 200))] [] t := by
  unfold f_X12_stepText at h
  refine g_iconst X dX12_stepText_0 ?_
  refine g_istore_n (lv' := [(1, iv 0), (0, .ref (r 200))]) X dX12_stepText_1 rfl (by decide) rfl ?_
  refine g_iconst X dX12_stepText_2 ?_
  refine g_istore_n (lv' := [(2, iv 1), (1, iv 0), (0, .ref (r 200))]) X dX12_stepText_3 rfl (by decide) rfl ?_
  refine g_sub (lv' := [(0, .ref (r 200)), (1, iv 0), (2, iv 1)]) [2, 1, 0] rfl (t_f_X12_stepText_L4 X (fun t16 h => ?_) (fun t19 h => ?_) N 0 1 t h)
  · refine g_aload_n X dX12_stepText_44 0 rfl ?_
    refine g_iconst X dX12_stepText_45 ?_
    refine g_callI (rest := []) X (fun u9 h9 => cp_X12_wrong l E r N 5 t16 u9 h9) yy_X12_wrong yi_X12_wrong wdM_RX12_317 0 12 (gW_at oM) rfl rfl rfl (Nat.le_of_ble_eq_true rfl) dX12_stepText_46 ⟨by decide, by decide⟩ ⟨rfl, rfl⟩ h (fun v18 t17 h => ?_)
    exact g_zret X h dX12_stepText_49
  · refine g_iconst X dX12_stepText_65 ?_
    exact g_zret X h dX12_stepText_66
set_option maxHeartbeats 4000000 in
set_option maxRecDepth 100000 in
theorem cp_X12_stepText (l : Launch) (E : cE) (r : Nat → Nat) (N : Nat) (t : St) (z : Int × St) (h : f_X12_stepText N t = some z) : cM l E yX12_stepText cX12_stepText 3 (some .boolean) rm_f_X12_stepText [.ref (r 200)] (gW E r shM t) (gqI E (gW E r shM) z) := by
  refine g_of (w := gW E r shM) (by decide) (Nat.le_of_ble_eq_true rfl) ?_
  intro p e s m below meth c A X
  exact g_sub (lv' := [(0, .ref (r 200))]) [0] rfl (b_f_X12_stepText X h)
theorem yy_X12_stepText : cY yX12_stepText cX12_stepText 3 (some .boolean) 0 := ⟨wdK_X12_stepText, wdZ_RX12, by decide +kernel⟩
theorem yi_X12_stepText : cYi yX12_stepText := ⟨wdN_X12_stepText, wdS_X12_stepText⟩
