theorem dX12_goesToStep_0 : decode cX12_goesToStep 0 = .ok (.aload_n 0, 1) := by decide +kernel
theorem dX12_goesToStep_1 : decode cX12_goesToStep 1 = .ok (.getfield 245, 3) := by decide +kernel
theorem dX12_goesToStep_4 : decode cX12_goesToStep 4 = .ok (.ifCond .le 140, 3) := by decide +kernel
theorem dX12_goesToStep_7 : decode cX12_goesToStep 7 = .ok (.aload_n 0, 1) := by decide +kernel
theorem dX12_goesToStep_8 : decode cX12_goesToStep 8 = .ok (.getfield 101, 3) := by decide +kernel
theorem dX12_goesToStep_11 : decode cX12_goesToStep 11 = .ok (.aload_n 0, 1) := by decide +kernel
theorem dX12_goesToStep_12 : decode cX12_goesToStep 12 = .ok (.getfield 245, 3) := by decide +kernel
theorem dX12_goesToStep_15 : decode cX12_goesToStep 15 = .ok (.iconst 1, 1) := by decide +kernel
theorem dX12_goesToStep_16 : decode cX12_goesToStep 16 = .ok (.isub, 1) := by decide +kernel
theorem dX12_goesToStep_17 : decode cX12_goesToStep 17 = .ok (.iaload, 1) := by decide +kernel
theorem dX12_goesToStep_18 : decode cX12_goesToStep 18 = .ok (.istore_n 1, 1) := by decide +kernel
theorem dX12_goesToStep_19 : decode cX12_goesToStep 19 = .ok (.aload_n 0, 1) := by decide +kernel
theorem dX12_goesToStep_20 : decode cX12_goesToStep 20 = .ok (.getfield 65, 3) := by decide +kernel
theorem dX12_goesToStep_23 : decode cX12_goesToStep 23 = .ok (.iload_n 1, 1) := by decide +kernel
theorem dX12_goesToStep_24 : decode cX12_goesToStep 24 = .ok (.iaload, 1) := by decide +kernel
theorem dX12_goesToStep_25 : decode cX12_goesToStep 25 = .ok (.istore_n 2, 1) := by decide +kernel
theorem dX12_goesToStep_26 : decode cX12_goesToStep 26 = .ok (.iload_n 2, 1) := by decide +kernel
theorem dX12_goesToStep_27 : decode cX12_goesToStep 27 = .ok (.sipush 5125, 3) := by decide +kernel
theorem dX12_goesToStep_30 : decode cX12_goesToStep 30 = .ok (.if_icmp .ne 15, 3) := by decide +kernel
theorem dX12_goesToStep_33 : decode cX12_goesToStep 33 = .ok (.aload_n 0, 1) := by decide +kernel
theorem dX12_goesToStep_34 : decode cX12_goesToStep 34 = .ok (.iload_n 1, 1) := by decide +kernel
theorem dX12_goesToStep_35 : decode cX12_goesToStep 35 = .ok (.invokevirtual 605, 3) := by decide +kernel
theorem dX12_goesToStep_38 : decode cX12_goesToStep 38 = .ok (.istore_n 3, 1) := by decide +kernel
theorem dX12_goesToStep_39 : decode cX12_goesToStep 39 = .ok (.iload_n 3, 1) := by decide +kernel
theorem dX12_goesToStep_40 : decode cX12_goesToStep 40 = .ok (.ifCond .le (-40), 3) := by decide +kernel
theorem dX12_goesToStep_43 : decode cX12_goesToStep 43 = .ok (.iload_n 3, 1) := by decide +kernel
theorem dX12_goesToStep_44 : decode cX12_goesToStep 44 = .ok (.ireturn, 1) := by decide +kernel
theorem dX12_goesToStep_45 : decode cX12_goesToStep 45 = .ok (.iload_n 2, 1) := by decide +kernel
theorem dX12_goesToStep_46 : decode cX12_goesToStep 46 = .ok (.bipush 7, 2) := by decide +kernel
theorem dX12_goesToStep_48 : decode cX12_goesToStep 48 = .ok (.if_icmp .eq 71, 3) := by decide +kernel
theorem dX12_goesToStep_51 : decode cX12_goesToStep 51 = .ok (.iload_n 2, 1) := by decide +kernel
theorem dX12_goesToStep_52 : decode cX12_goesToStep 52 = .ok (.bipush 8, 2) := by decide +kernel
theorem dX12_goesToStep_54 : decode cX12_goesToStep 54 = .ok (.if_icmp .eq 65, 3) := by decide +kernel
theorem dX12_goesToStep_57 : decode cX12_goesToStep 57 = .ok (.iload_n 2, 1) := by decide +kernel
theorem dX12_goesToStep_58 : decode cX12_goesToStep 58 = .ok (.bipush 9, 2) := by decide +kernel
theorem dX12_goesToStep_60 : decode cX12_goesToStep 60 = .ok (.if_icmp .eq 59, 3) := by decide +kernel
theorem dX12_goesToStep_63 : decode cX12_goesToStep 63 = .ok (.iload_n 2, 1) := by decide +kernel
theorem dX12_goesToStep_64 : decode cX12_goesToStep 64 = .ok (.bipush 11, 2) := by decide +kernel
theorem dX12_goesToStep_66 : decode cX12_goesToStep 66 = .ok (.if_icmp .eq 53, 3) := by decide +kernel
theorem dX12_goesToStep_69 : decode cX12_goesToStep 69 = .ok (.iload_n 2, 1) := by decide +kernel
theorem dX12_goesToStep_70 : decode cX12_goesToStep 70 = .ok (.bipush 13, 2) := by decide +kernel
theorem dX12_goesToStep_72 : decode cX12_goesToStep 72 = .ok (.if_icmp .eq 47, 3) := by decide +kernel
theorem dX12_goesToStep_75 : decode cX12_goesToStep 75 = .ok (.aload_n 0, 1) := by decide +kernel
theorem dX12_goesToStep_76 : decode cX12_goesToStep 76 = .ok (.iload_n 1, 1) := by decide +kernel
theorem dX12_goesToStep_77 : decode cX12_goesToStep 77 = .ok (.putfield 608, 3) := by decide +kernel
theorem dX12_goesToStep_80 : decode cX12_goesToStep 80 = .ok (.aload_n 0, 1) := by decide +kernel
theorem dX12_goesToStep_81 : decode cX12_goesToStep 81 = .ok (.iconst 0, 1) := by decide +kernel
theorem dX12_goesToStep_82 : decode cX12_goesToStep 82 = .ok (.putfield 572, 3) := by decide +kernel
theorem dX12_goesToStep_85 : decode cX12_goesToStep 85 = .ok (.aload_n 0, 1) := by decide +kernel
theorem dX12_goesToStep_86 : decode cX12_goesToStep 86 = .ok (.getfield 65, 3) := by decide +kernel
theorem dX12_goesToStep_89 : decode cX12_goesToStep 89 = .ok (.iload_n 1, 1) := by decide +kernel
theorem dX12_goesToStep_90 : decode cX12_goesToStep 90 = .ok (.iaload, 1) := by decide +kernel
theorem dX12_goesToStep_91 : decode cX12_goesToStep 91 = .ok (.sipush 5059, 3) := by decide +kernel
theorem dX12_goesToStep_94 : decode cX12_goesToStep 94 = .ok (.if_icmp .eq 9, 3) := by decide +kernel
theorem dX12_goesToStep_97 : decode cX12_goesToStep 97 = .ok (.iinc 1 1, 3) := by decide +kernel
theorem dX12_goesToStep_100 : decode cX12_goesToStep 100 = .ok (.goto (-15), 3) := by decide +kernel
theorem dX12_goesToStep_103 : decode cX12_goesToStep 103 = .ok (.aload_n 0, 1) := by decide +kernel
theorem dX12_goesToStep_104 : decode cX12_goesToStep 104 = .ok (.getfield 101, 3) := by decide +kernel
theorem dX12_goesToStep_107 : decode cX12_goesToStep 107 = .ok (.aload_n 0, 1) := by decide +kernel
theorem dX12_goesToStep_108 : decode cX12_goesToStep 108 = .ok (.getfield 245, 3) := by decide +kernel
theorem dX12_goesToStep_111 : decode cX12_goesToStep 111 = .ok (.iconst 1, 1) := by decide +kernel
theorem dX12_goesToStep_112 : decode cX12_goesToStep 112 = .ok (.isub, 1) := by decide +kernel
theorem dX12_goesToStep_113 : decode cX12_goesToStep 113 = .ok (.iload_n 1, 1) := by decide +kernel
theorem dX12_goesToStep_114 : decode cX12_goesToStep 114 = .ok (.iconst 1, 1) := by decide +kernel
theorem dX12_goesToStep_115 : decode cX12_goesToStep 115 = .ok (.iadd, 1) := by decide +kernel
theorem dX12_goesToStep_116 : decode cX12_goesToStep 116 = .ok (.iastore, 1) := by decide +kernel
theorem dX12_goesToStep_117 : decode cX12_goesToStep 117 = .ok (.iconst 1, 1) := by decide +kernel
theorem dX12_goesToStep_118 : decode cX12_goesToStep 118 = .ok (.ireturn, 1) := by decide +kernel
theorem dX12_goesToStep_119 : decode cX12_goesToStep 119 = .ok (.aload_n 0, 1) := by decide +kernel
theorem dX12_goesToStep_120 : decode cX12_goesToStep 120 = .ok (.aload_n 0, 1) := by decide +kernel
theorem dX12_goesToStep_121 : decode cX12_goesToStep 121 = .ok (.iload_n 1, 1) := by decide +kernel
theorem dX12_goesToStep_122 : decode cX12_goesToStep 122 = .ok (.invokevirtual 611, 3) := by decide +kernel
theorem dX12_goesToStep_125 : decode cX12_goesToStep 125 = .ok (.invokevirtual 614, 3) := by decide +kernel
theorem dX12_goesToStep_128 : decode cX12_goesToStep 128 = .ok (.istore_n 3, 1) := by decide +kernel
theorem dX12_goesToStep_129 : decode cX12_goesToStep 129 = .ok (.iload_n 3, 1) := by decide +kernel
theorem dX12_goesToStep_130 : decode cX12_goesToStep 130 = .ok (.ifCond .le 5, 3) := by decide +kernel
theorem dX12_goesToStep_133 : decode cX12_goesToStep 133 = .ok (.iload_n 3, 1) := by decide +kernel
theorem dX12_goesToStep_134 : decode cX12_goesToStep 134 = .ok (.ireturn, 1) := by decide +kernel
theorem dX12_goesToStep_135 : decode cX12_goesToStep 135 = .ok (.aload_n 0, 1) := by decide +kernel
theorem dX12_goesToStep_136 : decode cX12_goesToStep 136 = .ok (.iload_n 1, 1) := by decide +kernel
theorem dX12_goesToStep_137 : decode cX12_goesToStep 137 = .ok (.iload_n 2, 1) := by decide +kernel
theorem dX12_goesToStep_138 : decode cX12_goesToStep 138 = .ok (.invokevirtual 617, 3) := by decide +kernel
theorem dX12_goesToStep_141 : decode cX12_goesToStep 141 = .ok (.goto (-141), 3) := by decide +kernel
theorem dX12_goesToStep_144 : decode cX12_goesToStep 144 = .ok (.iconst 0, 1) := by decide +kernel
theorem dX12_goesToStep_145 : decode cX12_goesToStep 145 = .ok (.ireturn, 1) := by decide +kernel
abbrev rm_f_X12_goesToStep : Room := { frames := 206, cells := 0, slots := 0, locals := 12162 }
def f_X12_goesToStep_L0 (N : Nat) (K2 : (Int → St → Option (Int × St))) (K3 : (St → Option (Int × St))) : Nat → St → Option (Int × St)
  | 0, _ => none
  | n9 + 1, t1 =>
    lt1 (t1.1 200 51) fun v4 =>
    cmpI v4 0 (if 0 < v4 then (lt1 (t1.1 200 51) fun v5 =>
    ixI (v5 - 1) 1600 (lt1 (t1.1 55 (v5 - 1).toNat) fun v6 =>
    ixI v6 10100 (lt1 (t1.1 31 v6.toNat) fun v7 =>
    cmpI v7 5125 (if v7 = 5125 then (bdI (f_X12_closes N v6 t1) fun v16 t15 =>
    cmpI v16 0 (if 0 < v16 then (some (v16, t15))
    else (f_X12_goesToStep_L0 N K2 K3 n9 t15)))
    else (jn1 (fun (t8 : St) => bdI (f_X12_actsOf N v6 t8) fun v11 t10 =>
    bdI (f_X12_acted N v11 t10) fun v13 t12 =>
    cmpI v13 0 (if 0 < v13 then (some (v13, t12))
    else (bdV (f_X12_enters_ N v6 v7 t12) fun t14 =>
    f_X12_goesToStep_L0 N K2 K3 n9 t14))) fun J9 =>
    cmpI v7 7 (if v7 = 7 then (J9 t1)
    else (cmpI v7 8 (if v7 = 8 then (J9 t1)
    else (cmpI v7 9 (if v7 = 9 then (J9 t1)
    else (cmpI v7 11 (if v7 = 11 then (J9 t1)
    else (cmpI v7 13 (if v7 = 13 then (J9 t1)
    else (K2 v6 t1)))))))))))))))
    else (K3 t1))
def f_X12_goesToStep_L85 (K23 : (Int → St → Option (Int × St))) : Nat → Int → St → Option (Int × St)
  | 0, _, _ => none
  | n9 + 1, x21, t22 =>
    ixI x21 10100 (lt1 (t22.1 31 x21.toNat) fun v24 =>
    cmpI v24 5059 (if v24 = 5059 then (K23 x21 t22)
    else (f_X12_goesToStep_L85 K23 n9 (x21 + 1) t22)))
def f_X12_goesToStep (N : Nat) (t : St) : Option (Int × St) :=
    f_X12_goesToStep_L0 N (fun (k17 : Int) (t18 : St) => lt1 (pI t18 200 115 k17) fun t19 =>
    lt1 (pI t19 200 52 0) fun t20 =>
    f_X12_goesToStep_L85 (fun (k25 : Int) (t26 : St) => lt1 (t26.1 200 51) fun v27 =>
    ixI (v27 - 1) 1600 (lt1 (pI t26 55 (v27 - 1).toNat (k25 + 1)) fun t28 =>
    some (1, t28))) N k17 t20) (fun (t29 : St) => some (0, t29)) N t
set_option maxHeartbeats 4000000 in
set_option maxRecDepth 100000 in
theorem t_f_X12_goesToStep_L0 {p : Program} {l : Launch} {e : Env} {s : State} {m : MethodId} {args : Array Value} {below : List Frame} {meth : Method} {c : Code} {E : cE} {A : Nat → Prop} {r : Nat → Nat} {mc ms : Nat} {z : Int × St} {N : Nat} {K2 : (Int → St → Option (Int × St))} {K3 : (St → Option (Int × St))} (X : gX p s m meth c cX12_goesToStep 4 (some .int) yX12_goesToStep args E A) (hK2 : ∀ (q1 : Int) (t9 : St), K2 q1 t9 = some z → gP p l e rm_f_X12_goesToStep s m args below meth c E A 4 (MQ below ((gqI E (gW E r shM) z) A) args s mc ms A) (gW E r shM) 75 [(0, .ref (r 200)), (1, iv q1)] [] t9) (hK3 : ∀ (t9 : St), K3 t9 = some z → gP p l e rm_f_X12_goesToStep s m args below meth c E A 4 (MQ below ((gqI E (gW E r shM) z) A) args s mc ms A) (gW E r shM) 144 [] [] t9) : ∀ (n9 : Nat) (t1 : St), f_X12_goesToStep_L0 N K2 K3 n9 t1 = some z → gP p l e rm_f_X12_goesToStep s m args below meth c E A 4 (MQ below ((gqI E (gW E r shM) z) A) args s mc ms A) (gW E r shM) 0 [(0, .ref (r 200))] [] t1 := by
  intro n9
  induction n9 with
  | zero => intro t1 h; cases h
  | succ n9 ih =>
    intro t1 h
    unfold f_X12_goesToStep_L0 at h
    refine g_aload_n X dX12_goesToStep_0 0 rfl ?_
    refine g_getI X fM_51 rfl dX12_goesToStep_1 h (fun v4 h => ?_)
    refine g_if_le (tgt := 144) X dX12_goesToStep_4 (by decide) h (fun h => ?_) (fun h => ?_)
    · exact g_sub (lv' := []) [] rfl (hK3 t1 h)
    · refine g_aload_n X dX12_goesToStep_7 0 rfl ?_
      refine g_getR X fM_55 rfl dX12_goesToStep_8 ?_
      refine g_aload_n X dX12_goesToStep_11 0 rfl ?_
      refine g_getI X fM_51 rfl dX12_goesToStep_12 h (fun v5 h => ?_)
      refine g_iconst X dX12_goesToStep_15 ?_
      refine g_isub X dX12_goesToStep_16 ?_
      refine g_iald X aM_55 dX12_goesToStep_17 h (fun v6 h => ?_)
      refine g_istore_n (lv' := [(1, iv v6), (0, .ref (r 200))]) X dX12_goesToStep_18 rfl (by decide) rfl ?_
      refine g_aload_n X dX12_goesToStep_19 1 rfl ?_
      refine g_getR X fM_31 rfl dX12_goesToStep_20 ?_
      refine g_iload_n X dX12_goesToStep_23 0 rfl ?_
      refine g_iald X aM_31 dX12_goesToStep_24 h (fun v7 h => ?_)
      refine g_istore_n (lv' := [(2, iv v7), (1, iv v6), (0, .ref (r 200))]) X dX12_goesToStep_25 rfl (by decide) rfl ?_
      refine g_iload_n X dX12_goesToStep_26 0 rfl ?_
      refine g_sipush X dX12_goesToStep_27 (by decide) ?_
      refine g_icmp_ne (tgt := 45) X dX12_goesToStep_30 (by decide) h (fun h => ?_) (fun h => ?_)
      · refine g_iload_n X dX12_goesToStep_45 0 rfl ?_
        refine g_bipush X dX12_goesToStep_46 (by decide) ?_
        refine g_join (J := fun jj => ∀ (t8 : St), jj  t8 = some z → gP p l e rm_f_X12_goesToStep s m args below meth c E A 4 (MQ below ((gqI E (gW E r shM) z) A) args s mc ms A) (gW E r shM) 119 [(0, .ref (r 200)), (1, iv v6), (2, iv v7)] [] t8) h (fun  t8 h => ?_) (fun J9 hJ9 h => ?_)
        · refine g_aload_n X dX12_goesToStep_119 0 rfl ?_
          refine g_aload_n X dX12_goesToStep_120 0 rfl ?_
          refine g_iload_n X dX12_goesToStep_121 1 rfl ?_
          refine g_callI (rest := [.ref (r 200)]) X (fun u9 h9 => cp_X12_actsOf l E r N v6 t8 u9 h9) yy_X12_actsOf yi_X12_actsOf wdM_RX12_611 0 12 (gW_at oM) rfl rfl rfl (Nat.le_of_ble_eq_true rfl) dX12_goesToStep_122 ⟨by decide, by decide⟩ ⟨rfl, rfl⟩ h (fun v11 t10 h => ?_)
          refine g_callI (rest := []) X (fun u9 h9 => cp_X12_acted l E r N v11 t10 u9 h9) yy_X12_acted yi_X12_acted wdM_RX12_614 0 12 (gW_at oM) rfl rfl rfl (Nat.le_of_ble_eq_true rfl) dX12_goesToStep_125 ⟨by decide, by decide⟩ ⟨rfl, rfl⟩ h (fun v13 t12 h => ?_)
          refine g_istore_n (lv' := [(3, iv v13), (0, .ref (r 200)), (1, iv v6), (2, iv v7)]) X dX12_goesToStep_128 rfl (by decide) rfl ?_
          refine g_iload_n X dX12_goesToStep_129 0 rfl ?_
          refine g_if_le (tgt := 135) X dX12_goesToStep_130 (by decide) h (fun h => ?_) (fun h => ?_)
          · refine g_aload_n X dX12_goesToStep_135 1 rfl ?_
            refine g_iload_n X dX12_goesToStep_136 2 rfl ?_
            refine g_iload_n X dX12_goesToStep_137 3 rfl ?_
            refine g_callV (rest := []) X (fun u9 h9 => cp_X12_enters_ l E r N v6 v7 t12 u9 h9) yy_X12_enters_ yi_X12_enters_ wdM_RX12_617 0 12 (gW_at oM) rfl rfl rfl (Nat.le_of_ble_eq_true rfl) dX12_goesToStep_138 ⟨by decide, by decide⟩ ⟨rfl, rfl⟩ h (fun t14 h => ?_)
            refine g_goto (tgt := 0) X dX12_goesToStep_141 (by decide) ?_
            exact g_sub (lv' := [(0, .ref (r 200))]) [1] rfl (ih t14 h)
          · refine g_iload_n X dX12_goesToStep_133 0 rfl ?_
            exact g_iret X h dX12_goesToStep_134
        refine g_icmp_eq (tgt := 119) X dX12_goesToStep_48 (by decide) h (fun h => ?_) (fun h => ?_)
        · exact g_sub (lv' := [(0, .ref (r 200)), (1, iv v6), (2, iv v7)]) [2, 1, 0] rfl (hJ9 t1 h)
        · refine g_iload_n X dX12_goesToStep_51 0 rfl ?_
          refine g_bipush X dX12_goesToStep_52 (by decide) ?_
          refine g_icmp_eq (tgt := 119) X dX12_goesToStep_54 (by decide) h (fun h => ?_) (fun h => ?_)
          · exact g_sub (lv' := [(0, .ref (r 200)), (1, iv v6), (2, iv v7)]) [2, 1, 0] rfl (hJ9 t1 h)
          · refine g_iload_n X dX12_goesToStep_57 0 rfl ?_
            refine g_bipush X dX12_goesToStep_58 (by decide) ?_
            refine g_icmp_eq (tgt := 119) X dX12_goesToStep_60 (by decide) h (fun h => ?_) (fun h => ?_)
            · exact g_sub (lv' := [(0, .ref (r 200)), (1, iv v6), (2, iv v7)]) [2, 1, 0] rfl (hJ9 t1 h)
            · refine g_iload_n X dX12_goesToStep_63 0 rfl ?_
              refine g_bipush X dX12_goesToStep_64 (by decide) ?_
              refine g_icmp_eq (tgt := 119) X dX12_goesToStep_66 (by decide) h (fun h => ?_) (fun h => ?_)
              · exact g_sub (lv' := [(0, .ref (r 200)), (1, iv v6), (2, iv v7)]) [2, 1, 0] rfl (hJ9 t1 h)
              · refine g_iload_n X dX12_goesToStep_69 0 rfl ?_
                refine g_bipush X dX12_goesToStep_70 (by decide) ?_
                refine g_icmp_eq (tgt := 119) X dX12_goesToStep_72 (by decide) h (fun h => ?_) (fun h => ?_)
                · exact g_sub (lv' := [(0, .ref (r 200)), (1, iv v6), (2, iv v7)]) [2, 1, 0] rfl (hJ9 t1 h)
                · exact g_sub (lv' := [(0, .ref (r 200)), (1, iv v6)]) [2, 1] rfl (hK2 v6 t1 h)
      · refine g_aload_n X dX12_goesToStep_33 2 rfl ?_
        refine g_iload_n X dX12_goesToStep_34 1 rfl ?_
        refine g_callI (rest := []) X (fun u9 h9 => cp_X12_closes l E r N v6 t1 u9 h9) yy_X12_closes yi_X12_closes wdM_RX12_605 0 12 (gW_at oM) rfl rfl rfl (Nat.le_of_ble_eq_true rfl) dX12_goesToStep_35 ⟨by decide, by decide⟩ ⟨rfl, rfl⟩ h (fun v16 t15 h => ?_)
        refine g_istore_n (lv' := [(3, iv v16), (2, iv v7), (1, iv v6), (0, .ref (r 200))]) X dX12_goesToStep_38 rfl (by decide) rfl ?_
        refine g_iload_n X dX12_goesToStep_39 0 rfl ?_
        refine g_if_le (tgt := 0) X dX12_goesToStep_40 (by decide) h (fun h => ?_) (fun h => ?_)
        · exact g_sub (lv' := [(0, .ref (r 200))]) [3] rfl (ih t15 h)
        · refine g_iload_n X dX12_goesToStep_43 0 rfl ?_
          exact g_iret X h dX12_goesToStep_44
set_option maxHeartbeats 4000000 in
set_option maxRecDepth 100000 in
theorem t_f_X12_goesToStep_L85 {p : Program} {l : Launch} {e : Env} {s : State} {m : MethodId} {args : Array Value} {below : List Frame} {meth : Method} {c : Code} {E : cE} {A : Nat → Prop} {r : Nat → Nat} {mc ms : Nat} {z : Int × St} {K23 : (Int → St → Option (Int × St))} (X : gX p s m meth c cX12_goesToStep 4 (some .int) yX12_goesToStep args E A) (hK23 : ∀ (q1 : Int) (t9 : St), K23 q1 t9 = some z → gP p l e rm_f_X12_goesToStep s m args below meth c E A 4 (MQ below ((gqI E (gW E r shM) z) A) args s mc ms A) (gW E r shM) 103 [(0, .ref (r 200)), (1, iv q1)] [] t9) : ∀ (n9 : Nat) (x21 : Int) (t22 : St), f_X12_goesToStep_L85 K23 n9 x21 t22 = some z → gP p l e rm_f_X12_goesToStep s m args below meth c E A 4 (MQ below ((gqI E (gW E r shM) z) A) args s mc ms A) (gW E r shM) 85 [(0, .ref (r 200)), (1, iv x21)] [] t22 := by
  intro n9
  induction n9 with
  | zero => intro x21 t22 h; cases h
  | succ n9 ih =>
    intro x21 t22 h
    unfold f_X12_goesToStep_L85 at h
    refine g_aload_n X dX12_goesToStep_85 0 rfl ?_
    refine g_getR X fM_31 rfl dX12_goesToStep_86 ?_
    refine g_iload_n X dX12_goesToStep_89 1 rfl ?_
    refine g_iald X aM_31 dX12_goesToStep_90 h (fun v24 h => ?_)
    refine g_sipush X dX12_goesToStep_91 (by decide) ?_
    refine g_icmp_eq (tgt := 103) X dX12_goesToStep_94 (by decide) h (fun h => ?_) (fun h => ?_)
    · exact g_sub (lv' := [(0, .ref (r 200)), (1, iv x21)]) [0, 1] rfl (hK23 x21 t22 h)
    · refine g_iinc (lv' := [(1, iv (x21 + 1)), (0, .ref (r 200))]) X dX12_goesToStep_97 (k := 1) rfl (by decide) rfl ?_
      refine g_goto (tgt := 85) X dX12_goesToStep_100 (by decide) ?_
      exact g_sub (lv' := [(0, .ref (r 200)), (1, iv (x21 + 1))]) [1, 0] rfl (ih (x21 + 1) t22 h)
set_option maxHeartbeats 4000000 in
set_option maxRecDepth 100000 in
theorem b_f_X12_goesToStep {p : Program} {l : Launch} {e : Env} {s : State} {m : MethodId} {args : Array Value} {below : List Frame} {meth : Method} {c : Code} {E : cE} {A : Nat → Prop} {r : Nat → Nat} {mc ms : Nat} {z : Int × St} {N : Nat} {t : St} (X : gX p s m meth c cX12_goesToStep 4 (some .int) yX12_goesToStep args E A) (h : f_X12_goesToStep N t = some z) : gP p l e rm_f_X12_goesToStep s m args below meth c E A 4 (MQ below ((gqI E (gW E r shM) z) A) args s mc ms A) (gW E r shM) 0 [(0, .ref (r 200))] [] t := by
  unfold f_X12_goesToStep at h
  refine g_sub (lv' := [(0, .ref (r 200))]) [0] rfl (t_f_X12_goesToStep_L0 X (fun k17 t18 h => ?_) (fun t29 h => ?_) N t h)
  · refine g_aload_n X dX12_goesToStep_75 0 rfl ?_
    refine g_iload_n X dX12_goesToStep_76 1 rfl ?_
    refine g_putI X fM_115w rfl dX12_goesToStep_77 h (fun t19 h => ?_)
    refine g_aload_n X dX12_goesToStep_80 0 rfl ?_
    refine g_iconst X dX12_goesToStep_81 ?_
    refine g_putI X fM_52w rfl dX12_goesToStep_82 h (fun t20 h => ?_)
    refine g_sub (lv' := [(0, .ref (r 200)), (1, iv k17)]) [0, 1] rfl (t_f_X12_goesToStep_L85 X (fun k25 t26 h => ?_) N k17 t20 h)
    · refine g_aload_n X dX12_goesToStep_103 0 rfl ?_
      refine g_getR X fM_55 rfl dX12_goesToStep_104 ?_
      refine g_aload_n X dX12_goesToStep_107 0 rfl ?_
      refine g_getI X fM_51 rfl dX12_goesToStep_108 h (fun v27 h => ?_)
      refine g_iconst X dX12_goesToStep_111 ?_
      refine g_isub X dX12_goesToStep_112 ?_
      refine g_iload_n X dX12_goesToStep_113 1 rfl ?_
      refine g_iconst X dX12_goesToStep_114 ?_
      refine g_iadd X dX12_goesToStep_115 ?_
      refine g_iast X aM_55 dX12_goesToStep_116 h (fun t28 h => ?_)
      refine g_iconst X dX12_goesToStep_117 ?_
      exact g_iret X h dX12_goesToStep_118
  · refine g_iconst X dX12_goesToStep_144 ?_
    exact g_iret X h dX12_goesToStep_145
set_option maxHeartbeats 4000000 in
set_option maxRecDepth 100000 in
theorem cp_X12_goesToStep (l : Launch) (E : cE) (r : Nat → Nat) (N : Nat) (t : St) (z : Int × St) (h : f_X12_goesToStep N t = some z) : cM l E yX12_goesToStep cX12_goesToStep 4 (some .int) rm_f_X12_goesToStep [.ref (r 200)] (gW E r shM t) (gqI E (gW E r shM) z) := by
  refine g_of (w := gW E r shM) (by decide) (Nat.le_of_ble_eq_true rfl) ?_
  intro p e s m below meth c A X
  exact g_sub (lv' := [(0, .ref (r 200))]) [0] rfl (b_f_X12_goesToStep X h)
theorem yy_X12_goesToStep : cY yX12_goesToStep cX12_goesToStep 4 (some .int) 0 := ⟨wdK_X12_goesToStep, wdZ_RX12, by decide +kernel⟩
theorem yi_X12_goesToStep : cYi yX12_goesToStep := ⟨wdN_X12_goesToStep, wdS_X12_goesToStep⟩
theorem dX12_step_0 : decode cX12_step 0 = .ok (.aload_n 0, 1) := by decide +kernel
theorem dX12_step_1 : decode cX12_step 1 = .ok (.getfield 241, 3) := by decide +kernel
theorem dX12_step_4 : decode cX12_step 4 = .ok (.ifCond .ne 5, 3) := by decide +kernel
theorem dX12_step_7 : decode cX12_step 7 = .ok (.iconst (-1), 1) := by decide +kernel
theorem dX12_step_8 : decode cX12_step 8 = .ok (.ireturn, 1) := by decide +kernel
theorem dX12_step_9 : decode cX12_step 9 = .ok (.aload_n 0, 1) := by decide +kernel
theorem dX12_step_10 : decode cX12_step 10 = .ok (.invokevirtual 577, 3) := by decide +kernel
theorem dX12_step_13 : decode cX12_step 13 = .ok (.aload_n 0, 1) := by decide +kernel
theorem dX12_step_14 : decode cX12_step 14 = .ok (.invokevirtual 620, 3) := by decide +kernel
theorem dX12_step_17 : decode cX12_step 17 = .ok (.istore_n 1, 1) := by decide +kernel
theorem dX12_step_18 : decode cX12_step 18 = .ok (.iload_n 1, 1) := by decide +kernel
theorem dX12_step_19 : decode cX12_step 19 = .ok (.iconst 1, 1) := by decide +kernel
theorem dX12_step_20 : decode cX12_step 20 = .ok (.if_icmp .eq 10, 3) := by decide +kernel
theorem dX12_step_23 : decode cX12_step 23 = .ok (.aload_n 0, 1) := by decide +kernel
theorem dX12_step_24 : decode cX12_step 24 = .ok (.iconst 0, 1) := by decide +kernel
theorem dX12_step_25 : decode cX12_step 25 = .ok (.putfield 241, 3) := by decide +kernel
theorem dX12_step_28 : decode cX12_step 28 = .ok (.iload_n 1, 1) := by decide +kernel
theorem dX12_step_29 : decode cX12_step 29 = .ok (.ireturn, 1) := by decide +kernel
theorem dX12_step_30 : decode cX12_step 30 = .ok (.aload_n 0, 1) := by decide +kernel
theorem dX12_step_31 : decode cX12_step 31 = .ok (.aload_n 0, 1) := by decide +kernel
theorem dX12_step_32 : decode cX12_step 32 = .ok (.getfield 608, 3) := by decide +kernel
theorem dX12_step_35 : decode cX12_step 35 = .ok (.aload_n 0, 1) := by decide +kernel
theorem dX12_step_36 : decode cX12_step 36 = .ok (.getfield 110, 3) := by decide +kernel
theorem dX12_step_39 : decode cX12_step 39 = .ok (.aload_n 0, 1) := by decide +kernel
theorem dX12_step_40 : decode cX12_step 40 = .ok (.getfield 245, 3) := by decide +kernel
theorem dX12_step_43 : decode cX12_step 43 = .ok (.iconst 1, 1) := by decide +kernel
theorem dX12_step_44 : decode cX12_step 44 = .ok (.isub, 1) := by decide +kernel
theorem dX12_step_45 : decode cX12_step 45 = .ok (.laload, 1) := by decide +kernel
theorem dX12_step_46 : decode cX12_step 46 = .ok (.invokevirtual 584, 3) := by decide +kernel
theorem dX12_step_49 : decode cX12_step 49 = .ok (.ifCond .le 10, 3) := by decide +kernel
theorem dX12_step_52 : decode cX12_step 52 = .ok (.aload_n 0, 1) := by decide +kernel
theorem dX12_step_53 : decode cX12_step 53 = .ok (.iconst 0, 1) := by decide +kernel
theorem dX12_step_54 : decode cX12_step 54 = .ok (.putfield 241, 3) := by decide +kernel
theorem dX12_step_57 : decode cX12_step 57 = .ok (.iconst 2, 1) := by decide +kernel
theorem dX12_step_58 : decode cX12_step 58 = .ok (.ireturn, 1) := by decide +kernel
theorem dX12_step_59 : decode cX12_step 59 = .ok (.aload_n 0, 1) := by decide +kernel
theorem dX12_step_60 : decode cX12_step 60 = .ok (.invokevirtual 588, 3) := by decide +kernel
theorem dX12_step_63 : decode cX12_step 63 = .ok (.iconst 1, 1) := by decide +kernel
theorem dX12_step_64 : decode cX12_step 64 = .ok (.ireturn, 1) := by decide +kernel
abbrev rm_f_X12_step : Room := { frames := 207, cells := 0, slots := 0, locals := 12185 }
def f_X12_step (N : Nat) (t : St) : Option (Int × St) :=
    lt1 (t.1 200 50) fun v1 =>
    cmpI v1 0 (if v1 = 0 then (some ((-1), t))
    else (bdV (f_X12_writes N t) fun t2 =>
    bdI (f_X12_goesToStep N t2) fun v4 t3 =>
    cmpI v4 1 (if v4 = 1 then (lt1 (t3.1 200 115) fun v5 =>
    lt1 (t3.1 200 51) fun v6 =>
    ixI (v6 - 1) 1600 (lt1 (t3.2 58 (v6 - 1).toNat) fun v7 =>
    bdI (f_X12_dances N v5 v7 t3) fun v9 t8 =>
    cmpI v9 0 (if 0 < v9 then (boI 0 (lt1 (pI t8 200 50 0) fun t11 =>
    some (2, t11)))
    else (bdV (f_X12_keeps N t8) fun t10 =>
    some (1, t10)))))
    else (boI 0 (lt1 (pI t3 200 50 0) fun t12 =>
    some (v4, t12))))))
set_option maxHeartbeats 4000000 in
set_option maxRecDepth 100000 in
theorem b_f_X12_step {p : Program} {l : Launch} {e : Env} {s : State} {m : MethodId} {args : Array Value} {below : List Frame} {meth : Method} {c : Code} {E : cE} {A : Nat → Prop} {r : Nat → Nat} {mc ms : Nat} {z : Int × St} {N : Nat} {t : St} (X : gX p s m meth c cX12_step 2 (some .int) yX12_step args E A) (h : f_X12_step N t = some z) : gP p l e rm_f_X12_step s m args below meth c E A 2 (MQ below ((gqI E (gW E r shM) z) A) args s mc ms A) (gW E r shM) 0 [(0, .ref (r 200))] [] t := by
  unfold f_X12_step at h
  refine g_aload_n X dX12_step_0 0 rfl ?_
  refine g_getI X fM_50 rfl dX12_step_1 h (fun v1 h => ?_)
  refine g_if_ne (tgt := 9) X dX12_step_4 (by decide) h (fun h => ?_) (fun h => ?_)
  · refine g_aload_n X dX12_step_9 0 rfl ?_
    refine g_callV (rest := []) X (fun u9 h9 => cp_X12_writes l E r N t u9 h9) yy_X12_writes yi_X12_writes wdM_RX12_577 0 12 (gW_at oM) rfl rfl rfl (Nat.le_of_ble_eq_true rfl) dX12_step_10 ⟨by decide, by decide⟩ ⟨rfl, rfl⟩ h (fun t2 h => ?_)
    refine g_aload_n X dX12_step_13 0 rfl ?_
    refine g_callI (rest := []) X (fun u9 h9 => cp_X12_goesToStep l E r N t2 u9 h9) yy_X12_goesToStep yi_X12_goesToStep wdM_RX12_620 0 12 (gW_at oM) rfl rfl rfl (Nat.le_of_ble_eq_true rfl) dX12_step_14 ⟨by decide, by decide⟩ ⟨rfl, rfl⟩ h (fun v4 t3 h => ?_)
    refine g_istore_n (lv' := [(1, iv v4), (0, .ref (r 200))]) X dX12_step_17 rfl (by decide) rfl ?_
    refine g_iload_n X dX12_step_18 0 rfl ?_
    refine g_iconst X dX12_step_19 ?_
    refine g_icmp_eq (tgt := 30) X dX12_step_20 (by decide) h (fun h => ?_) (fun h => ?_)
    · refine g_aload_n X dX12_step_30 1 rfl ?_
      refine g_aload_n X dX12_step_31 1 rfl ?_
      refine g_getI X fM_115 rfl dX12_step_32 h (fun v5 h => ?_)
      refine g_aload_n X dX12_step_35 1 rfl ?_
      refine g_getR X fM_58 rfl dX12_step_36 ?_
      refine g_aload_n X dX12_step_39 1 rfl ?_
      refine g_getI X fM_51 rfl dX12_step_40 h (fun v6 h => ?_)
      refine g_iconst X dX12_step_43 ?_
      refine g_isub X dX12_step_44 ?_
      refine g_lald X aM_58 dX12_step_45 h (fun v7 h => ?_)
      refine g_callI (rest := []) X (fun u9 h9 => cp_X12_dances l E r N v5 v7 t3 u9 h9) yy_X12_dances yi_X12_dances wdM_RX12_584 0 12 (gW_at oM) rfl rfl rfl (Nat.le_of_ble_eq_true rfl) dX12_step_46 ⟨by decide, by decide⟩ ⟨rfl, rfl⟩ h (fun v9 t8 h => ?_)
      refine g_if_le (tgt := 59) X dX12_step_49 (by decide) h (fun h => ?_) (fun h => ?_)
      · refine g_aload_n X dX12_step_59 1 rfl ?_
        refine g_callV (rest := []) X (fun u9 h9 => cp_X12_keeps l E r N t8 u9 h9) yy_X12_keeps yi_X12_keeps wdM_RX12_588 0 12 (gW_at oM) rfl rfl rfl (Nat.le_of_ble_eq_true rfl) dX12_step_60 ⟨by decide, by decide⟩ ⟨rfl, rfl⟩ h (fun t10 h => ?_)
        refine g_iconst X dX12_step_63 ?_
        exact g_iret X h dX12_step_64
      · refine g_aload_n X dX12_step_52 1 rfl ?_
        refine g_iconst X dX12_step_53 ?_
        refine g_putZ X fM_50w rfl dX12_step_54 h (fun t11 h => ?_)
        refine g_iconst X dX12_step_57 ?_
        exact g_iret X h dX12_step_58
    · refine g_aload_n X dX12_step_23 1 rfl ?_
      refine g_iconst X dX12_step_24 ?_
      refine g_putZ X fM_50w rfl dX12_step_25 h (fun t12 h => ?_)
      refine g_iload_n X dX12_step_28 0 rfl ?_
      exact g_iret X h dX12_step_29
  · refine g_iconst X dX12_step_7 ?_
    exact g_iret X h dX12_step_8
set_option maxHeartbeats 4000000 in
set_option maxRecDepth 100000 in
theorem cp_X12_step (l : Launch) (E : cE) (r : Nat → Nat) (N : Nat) (t : St) (z : Int × St) (h : f_X12_step N t = some z) : cM l E yX12_step cX12_step 2 (some .int) rm_f_X12_step [.ref (r 200)] (gW E r shM t) (gqI E (gW E r shM) z) := by
  refine g_of (w := gW E r shM) (by decide) (Nat.le_of_ble_eq_true rfl) ?_
  intro p e s m below meth c A X
  exact g_sub (lv' := [(0, .ref (r 200))]) [0] rfl (b_f_X12_step X h)
theorem yy_X12_step : cY yX12_step cX12_step 2 (some .int) 0 := ⟨wdK_X12_step, wdZ_RX12, by decide +kernel⟩
theorem yi_X12_step : cYi yX12_step := ⟨wdN_X12_step, wdS_X12_step⟩
theorem dX12_may_0 : decode cX12_may 0 = .ok (.iload_n 1, 1) := by decide +kernel
theorem dX12_may_1 : decode cX12_may 1 = .ok (.iconst 0, 1) := by decide +kernel
theorem dX12_may_2 : decode cX12_may 2 = .ok (.aload_n 0, 1) := by decide +kernel
theorem dX12_may_3 : decode cX12_may 3 = .ok (.getfield 392, 3) := by decide +kernel
theorem dX12_may_6 : decode cX12_may 6 = .ok (.iconst 1, 1) := by decide +kernel
theorem dX12_may_7 : decode cX12_may 7 = .ok (.isub, 1) := by decide +kernel
theorem dX12_may_8 : decode cX12_may 8 = .ok (.invokestatic 227, 3) := by decide +kernel
theorem dX12_may_11 : decode cX12_may 11 = .ok (.ifCond .ne 5, 3) := by decide +kernel
theorem dX12_may_14 : decode cX12_may 14 = .ok (.iconst (-1), 1) := by decide +kernel
theorem dX12_may_15 : decode cX12_may 15 = .ok (.ireturn, 1) := by decide +kernel
theorem dX12_may_16 : decode cX12_may 16 = .ok (.aload_n 0, 1) := by decide +kernel
theorem dX12_may_17 : decode cX12_may 17 = .ok (.aload_n 0, 1) := by decide +kernel
theorem dX12_may_18 : decode cX12_may 18 = .ok (.getfield 62, 3) := by decide +kernel
theorem dX12_may_21 : decode cX12_may 21 = .ok (.iload_n 1, 1) := by decide +kernel
theorem dX12_may_22 : decode cX12_may 22 = .ok (.iaload, 1) := by decide +kernel
theorem dX12_may_23 : decode cX12_may 23 = .ok (.aload_n 0, 1) := by decide +kernel
theorem dX12_may_24 : decode cX12_may 24 = .ok (.invokevirtual 580, 3) := by decide +kernel
theorem dX12_may_27 : decode cX12_may 27 = .ok (.invokevirtual 559, 3) := by decide +kernel
theorem dX12_may_30 : decode cX12_may 30 = .ok (.ifCond .eq 5, 3) := by decide +kernel
theorem dX12_may_33 : decode cX12_may 33 = .ok (.iconst 0, 1) := by decide +kernel
theorem dX12_may_34 : decode cX12_may 34 = .ok (.ireturn, 1) := by decide +kernel
theorem dX12_may_35 : decode cX12_may 35 = .ok (.aload_n 0, 1) := by decide +kernel
theorem dX12_may_36 : decode cX12_may 36 = .ok (.invokevirtual 563, 3) := by decide +kernel
theorem dX12_may_39 : decode cX12_may 39 = .ok (.aload_n 0, 1) := by decide +kernel
theorem dX12_may_40 : decode cX12_may 40 = .ok (.getfield 533, 3) := by decide +kernel
theorem dX12_may_43 : decode cX12_may 43 = .ok (.ireturn, 1) := by decide +kernel
abbrev rm_f_X12_may : Room := { frames := 105, cells := 0, slots := 0, locals := 6139 }
def f_X12_may (N : Nat) (a0 : Int) (t : St) : Option (Int × St) :=
    lt1 (t.1 200 17) fun v1 =>
    bdI (f_X12_in N a0 0 (v1 - 1) t) fun v3 t2 =>
    cmpI v3 0 (if v3 = 0 then (some ((-1), t2))
    else (ixI a0 32 (lt1 (t2.1 30 a0.toNat) fun v4 =>
    bdL (f_X12_everybody N t2) fun v6 t5 =>
    bdI (f_X12_reckons N v4 v6 t5) fun v8 t7 =>
    cmpI v8 0 (if v8 = 0 then (bdV (f_X12_notes N t7) fun t9 =>
    lt1 (t9.1 200 70) fun v10 =>
    some (v10, t9))
    else (some (0, t7))))))
set_option maxHeartbeats 4000000 in
set_option maxRecDepth 100000 in
theorem b_f_X12_may {p : Program} {l : Launch} {e : Env} {s : State} {m : MethodId} {args : Array Value} {below : List Frame} {meth : Method} {c : Code} {E : cE} {A : Nat → Prop} {r : Nat → Nat} {mc ms : Nat} {z : Int × St} {N : Nat} {a0 : Int} {t : St} (X : gX p s m meth c cX12_may 2 (some .int) yX12_may args E A) (h : f_X12_may N a0 t = some z) : gP p l e rm_f_X12_may s m args below meth c E A 2 (MQ below ((gqI E (gW E r shM) z) A) args s mc ms A) (gW E r shM) 0 [(0, .ref (r 200)), (1, iv a0)] [] t := by
  unfold f_X12_may at h
  refine g_iload_n X dX12_may_0 1 rfl ?_
  refine g_iconst X dX12_may_1 ?_
  refine g_aload_n X dX12_may_2 0 rfl ?_
  refine g_getI X fM_17 rfl dX12_may_3 h (fun v1 h => ?_)
  refine g_iconst X dX12_may_6 ?_
  refine g_isub X dX12_may_7 ?_
  refine g_callsI (rest := []) X (fun u9 h9 => cp_X12_in l E r N a0 0 (v1 - 1) t u9 h9) yy_X12_in wdT_X12_in wdM_RX12_227 rfl rfl (Nat.le_of_ble_eq_true rfl) dX12_may_8 ⟨by decide, by decide⟩ ⟨rfl, rfl⟩ h (fun v3 t2 h => ?_)
  refine g_if_ne (tgt := 16) X dX12_may_11 (by decide) h (fun h => ?_) (fun h => ?_)
  · refine g_aload_n X dX12_may_16 0 rfl ?_
    refine g_aload_n X dX12_may_17 0 rfl ?_
    refine g_getR X fM_30 rfl dX12_may_18 ?_
    refine g_iload_n X dX12_may_21 1 rfl ?_
    refine g_iald X aM_30 dX12_may_22 h (fun v4 h => ?_)
    refine g_aload_n X dX12_may_23 0 rfl ?_
    refine g_callL (rest := [iv v4, .ref (r 200)]) X (fun u9 h9 => cp_X12_everybody l E r N t2 u9 h9) yy_X12_everybody yi_X12_everybody wdM_RX12_580 0 12 (gW_at oM) rfl rfl rfl (Nat.le_of_ble_eq_true rfl) dX12_may_24 ⟨by decide, by decide⟩ ⟨rfl, rfl⟩ h (fun v6 t5 h => ?_)
    refine g_callI (rest := []) X (fun u9 h9 => cp_X12_reckons l E r N v4 v6 t5 u9 h9) yy_X12_reckons yi_X12_reckons wdM_RX12_559 0 12 (gW_at oM) rfl rfl rfl (Nat.le_of_ble_eq_true rfl) dX12_may_27 ⟨by decide, by decide⟩ ⟨rfl, rfl⟩ h (fun v8 t7 h => ?_)
    refine g_if_eq (tgt := 35) X dX12_may_30 (by decide) h (fun h => ?_) (fun h => ?_)
    · refine g_aload_n X dX12_may_35 0 rfl ?_
      refine g_callV (rest := []) X (fun u9 h9 => cp_X12_notes l E r N t7 u9 h9) yy_X12_notes yi_X12_notes wdM_RX12_563 0 12 (gW_at oM) rfl rfl rfl (Nat.le_of_ble_eq_true rfl) dX12_may_36 ⟨by decide, by decide⟩ ⟨rfl, rfl⟩ h (fun t9 h => ?_)
      refine g_aload_n X dX12_may_39 0 rfl ?_
      refine g_getI X fM_70 rfl dX12_may_40 h (fun v10 h => ?_)
      exact g_iret X h dX12_may_43
    · refine g_iconst X dX12_may_33 ?_
      exact g_iret X h dX12_may_34
  · refine g_iconst X dX12_may_14 ?_
    exact g_iret X h dX12_may_15
set_option maxHeartbeats 4000000 in
set_option maxRecDepth 100000 in
theorem cp_X12_may (l : Launch) (E : cE) (r : Nat → Nat) (N : Nat) (a0 : Int) (t : St) (z : Int × St) (h : f_X12_may N a0 t = some z) : cM l E yX12_may cX12_may 2 (some .int) rm_f_X12_may [.ref (r 200), iv a0] (gW E r shM t) (gqI E (gW E r shM) z) := by
  refine g_of (w := gW E r shM) (by decide) (Nat.le_of_ble_eq_true rfl) ?_
  intro p e s m below meth c A X
  exact g_sub (lv' := [(0, .ref (r 200)), (1, iv a0)]) [0, 1] rfl (b_f_X12_may X h)
theorem yy_X12_may : cY yX12_may cX12_may 2 (some .int) 1 := ⟨wdK_X12_may, wdZ_RX12, by decide +kernel⟩
theorem yi_X12_may : cYi yX12_may := ⟨wdN_X12_may, wdS_X12_may⟩
theorem dX12_levelBehind_0 : decode cX12_levelBehind 0 = .ok (.aload_n 0, 1) := by decide +kernel
theorem dX12_levelBehind_1 : decode cX12_levelBehind 1 = .ok (.getfield 623, 3) := by decide +kernel
theorem dX12_levelBehind_4 : decode cX12_levelBehind 4 = .ok (.istore_n 2, 1) := by decide +kernel
theorem dX12_levelBehind_5 : decode cX12_levelBehind 5 = .ok (.iconst 0, 1) := by decide +kernel
theorem dX12_levelBehind_6 : decode cX12_levelBehind 6 = .ok (.istore_n 3, 1) := by decide +kernel
theorem dX12_levelBehind_7 : decode cX12_levelBehind 7 = .ok (.iload_n 3, 1) := by decide +kernel
theorem dX12_levelBehind_8 : decode cX12_levelBehind 8 = .ok (.iload_n 2, 1) := by decide +kernel
theorem dX12_levelBehind_9 : decode cX12_levelBehind 9 = .ok (.if_icmp .ge 127, 3) := by decide +kernel
theorem dX12_levelBehind_12 : decode cX12_levelBehind 12 = .ok (.aload_n 0, 1) := by decide +kernel
theorem dX12_levelBehind_13 : decode cX12_levelBehind 13 = .ok (.getfield 177, 3) := by decide +kernel
theorem dX12_levelBehind_16 : decode cX12_levelBehind 16 = .ok (.iload_n 3, 1) := by decide +kernel
theorem dX12_levelBehind_17 : decode cX12_levelBehind 17 = .ok (.iaload, 1) := by decide +kernel
theorem dX12_levelBehind_18 : decode cX12_levelBehind 18 = .ok (.iload_n 1, 1) := by decide +kernel
theorem dX12_levelBehind_19 : decode cX12_levelBehind 19 = .ok (.if_icmp .eq 6, 3) := by decide +kernel
theorem dX12_levelBehind_22 : decode cX12_levelBehind 22 = .ok (.goto 108, 3) := by decide +kernel
theorem dX12_levelBehind_25 : decode cX12_levelBehind 25 = .ok (.iconst 0, 1) := by decide +kernel
theorem dX12_levelBehind_26 : decode cX12_levelBehind 26 = .ok (.istore 4, 2) := by decide +kernel
theorem dX12_levelBehind_28 : decode cX12_levelBehind 28 = .ok (.iload 4, 2) := by decide +kernel
theorem dX12_levelBehind_30 : decode cX12_levelBehind 30 = .ok (.aload_n 0, 1) := by decide +kernel
theorem dX12_levelBehind_31 : decode cX12_levelBehind 31 = .ok (.getfield 635, 3) := by decide +kernel
theorem dX12_levelBehind_34 : decode cX12_levelBehind 34 = .ok (.if_icmp .ge 96, 3) := by decide +kernel
theorem dX12_levelBehind_37 : decode cX12_levelBehind 37 = .ok (.aload_n 0, 1) := by decide +kernel
theorem dX12_levelBehind_38 : decode cX12_levelBehind 38 = .ok (.iload_n 3, 1) := by decide +kernel
theorem dX12_levelBehind_39 : decode cX12_levelBehind 39 = .ok (.invokevirtual 638, 3) := by decide +kernel
theorem dX12_levelBehind_42 : decode cX12_levelBehind 42 = .ok (.aload_n 0, 1) := by decide +kernel
theorem dX12_levelBehind_43 : decode cX12_levelBehind 43 = .ok (.getfield 181, 3) := by decide +kernel
theorem dX12_levelBehind_46 : decode cX12_levelBehind 46 = .ok (.bipush 32, 2) := by decide +kernel
theorem dX12_levelBehind_48 : decode cX12_levelBehind 48 = .ok (.iload_n 3, 1) := by decide +kernel
theorem dX12_levelBehind_49 : decode cX12_levelBehind 49 = .ok (.imul, 1) := by decide +kernel
theorem dX12_levelBehind_50 : decode cX12_levelBehind 50 = .ok (.iload 4, 2) := by decide +kernel
theorem dX12_levelBehind_52 : decode cX12_levelBehind 52 = .ok (.iadd, 1) := by decide +kernel
theorem dX12_levelBehind_53 : decode cX12_levelBehind 53 = .ok (.iconst (-1), 1) := by decide +kernel
theorem dX12_levelBehind_54 : decode cX12_levelBehind 54 = .ok (.iastore, 1) := by decide +kernel
theorem dX12_levelBehind_55 : decode cX12_levelBehind 55 = .ok (.aload_n 0, 1) := by decide +kernel
theorem dX12_levelBehind_56 : decode cX12_levelBehind 56 = .ok (.aload_n 0, 1) := by decide +kernel
theorem dX12_levelBehind_57 : decode cX12_levelBehind 57 = .ok (.getfield 62, 3) := by decide +kernel
theorem dX12_levelBehind_60 : decode cX12_levelBehind 60 = .ok (.iload 4, 2) := by decide +kernel
theorem dX12_levelBehind_62 : decode cX12_levelBehind 62 = .ok (.iaload, 1) := by decide +kernel
theorem dX12_levelBehind_63 : decode cX12_levelBehind 63 = .ok (.aload_n 0, 1) := by decide +kernel
theorem dX12_levelBehind_64 : decode cX12_levelBehind 64 = .ok (.invokevirtual 580, 3) := by decide +kernel
theorem dX12_levelBehind_67 : decode cX12_levelBehind 67 = .ok (.invokevirtual 559, 3) := by decide +kernel
theorem dX12_levelBehind_70 : decode cX12_levelBehind 70 = .ok (.ifCond .ne 6, 3) := by decide +kernel
theorem dX12_levelBehind_73 : decode cX12_levelBehind 73 = .ok (.goto 51, 3) := by decide +kernel
theorem dX12_levelBehind_76 : decode cX12_levelBehind 76 = .ok (.aload_n 0, 1) := by decide +kernel
theorem dX12_levelBehind_77 : decode cX12_levelBehind 77 = .ok (.invokevirtual 566, 3) := by decide +kernel
theorem dX12_levelBehind_80 : decode cX12_levelBehind 80 = .ok (.aload_n 0, 1) := by decide +kernel
theorem dX12_levelBehind_81 : decode cX12_levelBehind 81 = .ok (.invokevirtual 641, 3) := by decide +kernel
theorem dX12_levelBehind_84 : decode cX12_levelBehind 84 = .ok (.istore 5, 2) := by decide +kernel
theorem dX12_levelBehind_86 : decode cX12_levelBehind 86 = .ok (.iload 5, 2) := by decide +kernel
theorem dX12_levelBehind_88 : decode cX12_levelBehind 88 = .ok (.iconst (-1), 1) := by decide +kernel
theorem dX12_levelBehind_89 : decode cX12_levelBehind 89 = .ok (.if_icmp .ne 21, 3) := by decide +kernel
theorem dX12_levelBehind_92 : decode cX12_levelBehind 92 = .ok (.aload_n 0, 1) := by decide +kernel
theorem dX12_levelBehind_93 : decode cX12_levelBehind 93 = .ok (.getfield 623, 3) := by decide +kernel
theorem dX12_levelBehind_96 : decode cX12_levelBehind 96 = .ok (.istore 5, 2) := by decide +kernel
theorem dX12_levelBehind_98 : decode cX12_levelBehind 98 = .ok (.aload_n 0, 1) := by decide +kernel
theorem dX12_levelBehind_99 : decode cX12_levelBehind 99 = .ok (.iload_n 1, 1) := by decide +kernel
theorem dX12_levelBehind_100 : decode cX12_levelBehind 100 = .ok (.iconst 1, 1) := by decide +kernel
theorem dX12_levelBehind_101 : decode cX12_levelBehind 101 = .ok (.iadd, 1) := by decide +kernel
theorem dX12_levelBehind_102 : decode cX12_levelBehind 102 = .ok (.invokevirtual 644, 3) := by decide +kernel
theorem dX12_levelBehind_105 : decode cX12_levelBehind 105 = .ok (.ifCond .ne 5, 3) := by decide +kernel
theorem dX12_levelBehind_108 : decode cX12_levelBehind 108 = .ok (.iconst 0, 1) := by decide +kernel
theorem dX12_levelBehind_109 : decode cX12_levelBehind 109 = .ok (.ireturn, 1) := by decide +kernel
theorem dX12_levelBehind_110 : decode cX12_levelBehind 110 = .ok (.aload_n 0, 1) := by decide +kernel
theorem dX12_levelBehind_111 : decode cX12_levelBehind 111 = .ok (.getfield 181, 3) := by decide +kernel
theorem dX12_levelBehind_114 : decode cX12_levelBehind 114 = .ok (.bipush 32, 2) := by decide +kernel
theorem dX12_levelBehind_116 : decode cX12_levelBehind 116 = .ok (.iload_n 3, 1) := by decide +kernel
theorem dX12_levelBehind_117 : decode cX12_levelBehind 117 = .ok (.imul, 1) := by decide +kernel
theorem dX12_levelBehind_118 : decode cX12_levelBehind 118 = .ok (.iload 4, 2) := by decide +kernel
theorem dX12_levelBehind_120 : decode cX12_levelBehind 120 = .ok (.iadd, 1) := by decide +kernel
theorem dX12_levelBehind_121 : decode cX12_levelBehind 121 = .ok (.iload 5, 2) := by decide +kernel
theorem dX12_levelBehind_123 : decode cX12_levelBehind 123 = .ok (.iastore, 1) := by decide +kernel
theorem dX12_levelBehind_124 : decode cX12_levelBehind 124 = .ok (.iinc 4 1, 3) := by decide +kernel
theorem dX12_levelBehind_127 : decode cX12_levelBehind 127 = .ok (.goto (-99), 3) := by decide +kernel
theorem dX12_levelBehind_130 : decode cX12_levelBehind 130 = .ok (.iinc 3 1, 3) := by decide +kernel
theorem dX12_levelBehind_133 : decode cX12_levelBehind 133 = .ok (.goto (-126), 3) := by decide +kernel
theorem dX12_levelBehind_136 : decode cX12_levelBehind 136 = .ok (.iconst 1, 1) := by decide +kernel
theorem dX12_levelBehind_137 : decode cX12_levelBehind 137 = .ok (.ireturn, 1) := by decide +kernel
abbrev rm_f_X12_levelBehind : Room := { frames := 105, cells := 0, slots := 0, locals := 6139 }
def f_X12_levelBehind_L28 (N : Nat) (K15 : (St → Option (Int × St))) (y10 : Int) (y12 : Int) : Nat → Int → St → Option (Int × St)
  | 0, _, _ => none
  | n9 + 1, x13, t14 =>
    lt1 (t14.1 200 98) fun v16 =>
    cmpI x13 v16 (if x13 < v16 then (bdV (f_X12_showsState N y12 t14) fun t17 =>
    ixI ((32 * y12) + x13) 64000 (lt1 (pI t17 94 ((32 * y12) + x13).toNat (-1)) fun t18 =>
    ixI x13 32 (lt1 (t18.1 30 x13.toNat) fun v19 =>
    bdL (f_X12_everybody N t18) fun v21 t20 =>
    bdI (f_X12_reckons N v19 v21 t20) fun v23 t22 =>
    jn1 (fun (t24 : St) => f_X12_levelBehind_L28 N K15 y10 y12 n9 (x13 + 1) t24) fun J25 =>
    cmpI v23 0 (if v23 = 0 then (J25 t22)
    else (bdV (f_X12_settles N t22) fun t26 =>
    bdI (f_X12_stateAtHand N t26) fun v28 t27 =>
    jn1 (fun (j29 : Int) (t30 : St) => ixI ((32 * y12) + x13) 64000 (lt1 (pI t30 94 ((32 * y12) + x13).toNat j29) fun t32 =>
    J25 t32)) fun J31 =>
    cmpI v28 (-1) (if v28 = (-1) then (lt1 (t27.1 200 90) fun v33 =>
    bdI (f_X12_meets N (y10 + 1) t27) fun v35 t34 =>
    cmpI v35 0 (if v35 = 0 then (boI 0 (some (0, t34)))
    else (J31 v33 t34)))
    else (J31 v28 t27)))))))
    else (K15 t14))
def f_X12_levelBehind_L7 (N : Nat) (K6 : (St → Option (Int × St))) (y2 : Int) (y3 : Int) : Nat → Int → St → Option (Int × St)
  | 0, _, _ => none
  | n9 + 1, x4, t5 =>
    cmpI x4 y3 (if x4 < y3 then (ixI x4 2000 (lt1 (t5.1 93 x4.toNat) fun v7 =>
    jn1 (fun (t8 : St) => f_X12_levelBehind_L7 N K6 y2 y3 n9 (x4 + 1) t8) fun J9 =>
    cmpI v7 y2 (if v7 = y2 then (f_X12_levelBehind_L28 N (fun (t36 : St) => J9 t36) y2 x4 N 0 t5)
    else (J9 t5))))
    else (K6 t5))
def f_X12_levelBehind (N : Nat) (a0 : Int) (t : St) : Option (Int × St) :=
    lt1 (t.1 200 90) fun v1 =>
    f_X12_levelBehind_L7 N (fun (t37 : St) => boI 1 (some (1, t37))) a0 v1 N 0 t
set_option maxHeartbeats 4000000 in
set_option maxRecDepth 100000 in
theorem t_f_X12_levelBehind_L28 {p : Program} {l : Launch} {e : Env} {s : State} {m : MethodId} {args : Array Value} {below : List Frame} {meth : Method} {c : Code} {E : cE} {A : Nat → Prop} {r : Nat → Nat} {mc ms : Nat} {z : Int × St} {N : Nat} {K15 : (St → Option (Int × St))} {y10 : Int} {y11 : Int} {y12 : Int} (X : gX p s m meth c cX12_levelBehind 6 (some .boolean) yX12_levelBehind args E A) (hK15 : ∀ (t9 : St), K15 t9 = some z → gP p l e rm_f_X12_levelBehind s m args below meth c E A 6 (MQ below ((gqI E (gW E r shM) z) A) args s mc ms A) (gW E r shM) 130 [(0, .ref (r 200)), (1, iv y10), (2, iv y11), (3, iv y12)] [] t9) : ∀ (n9 : Nat) (x13 : Int) (t14 : St), f_X12_levelBehind_L28 N K15 y10 y12 n9 x13 t14 = some z → gP p l e rm_f_X12_levelBehind s m args below meth c E A 6 (MQ below ((gqI E (gW E r shM) z) A) args s mc ms A) (gW E r shM) 28 [(0, .ref (r 200)), (1, iv y10), (2, iv y11), (3, iv y12), (4, iv x13)] [] t14 := by
  intro n9
  induction n9 with
  | zero => intro x13 t14 h; cases h
  | succ n9 ih =>
    intro x13 t14 h
    unfold f_X12_levelBehind_L28 at h
    refine g_iload X dX12_levelBehind_28 4 rfl ?_
    refine g_aload_n X dX12_levelBehind_30 0 rfl ?_
    refine g_getI X fM_98 rfl dX12_levelBehind_31 h (fun v16 h => ?_)
    refine g_icmp_ge (tgt := 130) X dX12_levelBehind_34 (by decide) h (fun h => ?_) (fun h => ?_)
    · exact g_sub (lv' := [(0, .ref (r 200)), (1, iv y10), (2, iv y11), (3, iv y12)]) [0, 1, 2, 3] rfl (hK15 t14 h)
    · refine g_aload_n X dX12_levelBehind_37 0 rfl ?_
      refine g_iload_n X dX12_levelBehind_38 3 rfl ?_
      refine g_callV (rest := []) X (fun u9 h9 => cp_X12_showsState l E r N y12 t14 u9 h9) yy_X12_showsState yi_X12_showsState wdM_RX12_638 0 12 (gW_at oM) rfl rfl rfl (Nat.le_of_ble_eq_true rfl) dX12_levelBehind_39 ⟨by decide, by decide⟩ ⟨rfl, rfl⟩ h (fun t17 h => ?_)
      refine g_aload_n X dX12_levelBehind_42 0 rfl ?_
      refine g_getR X fM_94 rfl dX12_levelBehind_43 ?_
      refine g_bipush X dX12_levelBehind_46 (by decide) ?_
      refine g_iload_n X dX12_levelBehind_48 3 rfl ?_
      refine g_imul X dX12_levelBehind_49 ?_
      refine g_iload X dX12_levelBehind_50 4 rfl ?_
      refine g_iadd X dX12_levelBehind_52 ?_
      refine g_iconst X dX12_levelBehind_53 ?_
      refine g_iast X aM_94 dX12_levelBehind_54 h (fun t18 h => ?_)
      refine g_aload_n X dX12_levelBehind_55 0 rfl ?_
      refine g_aload_n X dX12_levelBehind_56 0 rfl ?_
      refine g_getR X fM_30 rfl dX12_levelBehind_57 ?_
      refine g_iload X dX12_levelBehind_60 4 rfl ?_
      refine g_iald X aM_30 dX12_levelBehind_62 h (fun v19 h => ?_)
      refine g_aload_n X dX12_levelBehind_63 0 rfl ?_
      refine g_callL (rest := [iv v19, .ref (r 200)]) X (fun u9 h9 => cp_X12_everybody l E r N t18 u9 h9) yy_X12_everybody yi_X12_everybody wdM_RX12_580 0 12 (gW_at oM) rfl rfl rfl (Nat.le_of_ble_eq_true rfl) dX12_levelBehind_64 ⟨by decide, by decide⟩ ⟨rfl, rfl⟩ h (fun v21 t20 h => ?_)
      refine g_callI (rest := []) X (fun u9 h9 => cp_X12_reckons l E r N v19 v21 t20 u9 h9) yy_X12_reckons yi_X12_reckons wdM_RX12_559 0 12 (gW_at oM) rfl rfl rfl (Nat.le_of_ble_eq_true rfl) dX12_levelBehind_67 ⟨by decide, by decide⟩ ⟨rfl, rfl⟩ h (fun v23 t22 h => ?_)
      refine g_join (J := fun jj => ∀ (t24 : St), jj  t24 = some z → gP p l e rm_f_X12_levelBehind s m args below meth c E A 6 (MQ below ((gqI E (gW E r shM) z) A) args s mc ms A) (gW E r shM) 124 [(0, .ref (r 200)), (1, iv y10), (2, iv y11), (3, iv y12), (4, iv x13)] [] t24) h (fun  t24 h => ?_) (fun J25 hJ25 h => ?_)
      · refine g_iinc (lv' := [(4, iv (x13 + 1)), (0, .ref (r 200)), (1, iv y10), (2, iv y11), (3, iv y12)]) X dX12_levelBehind_124 (k := 4) rfl (by decide) rfl ?_
        refine g_goto (tgt := 28) X dX12_levelBehind_127 (by decide) ?_
        exact g_sub (lv' := [(0, .ref (r 200)), (1, iv y10), (2, iv y11), (3, iv y12), (4, iv (x13 + 1))]) [1, 2, 3, 4, 0] rfl (ih (x13 + 1) t24 h)
      refine g_if_ne (tgt := 76) X dX12_levelBehind_70 (by decide) h (fun h => ?_) (fun h => ?_)
      · refine g_aload_n X dX12_levelBehind_76 0 rfl ?_
        refine g_callV (rest := []) X (fun u9 h9 => cp_X12_settles l E r N t22 u9 h9) yy_X12_settles yi_X12_settles wdM_RX12_566 0 12 (gW_at oM) rfl rfl rfl (Nat.le_of_ble_eq_true rfl) dX12_levelBehind_77 ⟨by decide, by decide⟩ ⟨rfl, rfl⟩ h (fun t26 h => ?_)
        refine g_aload_n X dX12_levelBehind_80 0 rfl ?_
        refine g_callI (rest := []) X (fun u9 h9 => cp_X12_stateAtHand l E r N t26 u9 h9) yy_X12_stateAtHand yi_X12_stateAtHand wdM_RX12_641 0 12 (gW_at oM) rfl rfl rfl (Nat.le_of_ble_eq_true rfl) dX12_levelBehind_81 ⟨by decide, by decide⟩ ⟨rfl, rfl⟩ h (fun v28 t27 h => ?_)
        refine g_istore (lv' := [(5, iv v28), (0, .ref (r 200)), (1, iv y10), (2, iv y11), (3, iv y12), (4, iv x13)]) X dX12_levelBehind_84 (by decide) rfl ?_
        refine g_iload X dX12_levelBehind_86 0 rfl ?_
        refine g_iconst X dX12_levelBehind_88 ?_
        refine g_join (J := fun jj => ∀ (j29 : Int) (t30 : St), jj j29 t30 = some z → gP p l e rm_f_X12_levelBehind s m args below meth c E A 6 (MQ below ((gqI E (gW E r shM) z) A) args s mc ms A) (gW E r shM) 110 [(0, .ref (r 200)), (1, iv y10), (2, iv y11), (3, iv y12), (4, iv x13), (5, iv j29)] [] t30) h (fun j29 t30 h => ?_) (fun J31 hJ31 h => ?_)
        · refine g_aload_n X dX12_levelBehind_110 0 rfl ?_
          refine g_getR X fM_94 rfl dX12_levelBehind_111 ?_
          refine g_bipush X dX12_levelBehind_114 (by decide) ?_
          refine g_iload_n X dX12_levelBehind_116 3 rfl ?_
          refine g_imul X dX12_levelBehind_117 ?_
          refine g_iload X dX12_levelBehind_118 4 rfl ?_
          refine g_iadd X dX12_levelBehind_120 ?_
          refine g_iload X dX12_levelBehind_121 5 rfl ?_
          refine g_iast X aM_94 dX12_levelBehind_123 h (fun t32 h => ?_)
          exact g_sub (lv' := [(0, .ref (r 200)), (1, iv y10), (2, iv y11), (3, iv y12), (4, iv x13)]) [0, 1, 2, 3, 4] rfl (hJ25 t32 h)
        refine g_icmp_ne (tgt := 110) X dX12_levelBehind_89 (by decide) h (fun h => ?_) (fun h => ?_)
        · exact g_sub (lv' := [(0, .ref (r 200)), (1, iv y10), (2, iv y11), (3, iv y12), (4, iv x13), (5, iv v28)]) [1, 2, 3, 4, 5, 0] rfl (hJ31 v28 t27 h)
        · refine g_aload_n X dX12_levelBehind_92 1 rfl ?_
          refine g_getI X fM_90 rfl dX12_levelBehind_93 h (fun v33 h => ?_)
          refine g_istore (lv' := [(5, iv v33), (0, .ref (r 200)), (1, iv y10), (2, iv y11), (3, iv y12), (4, iv x13)]) X dX12_levelBehind_96 (by decide) rfl ?_
          refine g_aload_n X dX12_levelBehind_98 1 rfl ?_
          refine g_iload_n X dX12_levelBehind_99 2 rfl ?_
          refine g_iconst X dX12_levelBehind_100 ?_
          refine g_iadd X dX12_levelBehind_101 ?_
          refine g_callI (rest := []) X (fun u9 h9 => cp_X12_meets l E r N (y10 + 1) t27 u9 h9) yy_X12_meets yi_X12_meets wdM_RX12_644 0 12 (gW_at oM) rfl rfl rfl (Nat.le_of_ble_eq_true rfl) dX12_levelBehind_102 ⟨by decide, by decide⟩ ⟨rfl, rfl⟩ h (fun v35 t34 h => ?_)
          refine g_if_ne (tgt := 110) X dX12_levelBehind_105 (by decide) h (fun h => ?_) (fun h => ?_)
          · exact g_sub (lv' := [(0, .ref (r 200)), (1, iv y10), (2, iv y11), (3, iv y12), (4, iv x13), (5, iv v33)]) [1, 2, 3, 4, 5, 0] rfl (hJ31 v33 t34 h)
          · refine g_iconst X dX12_levelBehind_108 ?_
            exact g_zret X h dX12_levelBehind_109
      · refine g_goto (tgt := 124) X dX12_levelBehind_73 (by decide) ?_
        exact g_sub (lv' := [(0, .ref (r 200)), (1, iv y10), (2, iv y11), (3, iv y12), (4, iv x13)]) [0, 1, 2, 3, 4] rfl (hJ25 t22 h)
set_option maxHeartbeats 4000000 in
set_option maxRecDepth 100000 in
theorem t_f_X12_levelBehind_L7 {p : Program} {l : Launch} {e : Env} {s : State} {m : MethodId} {args : Array Value} {below : List Frame} {meth : Method} {c : Code} {E : cE} {A : Nat → Prop} {r : Nat → Nat} {mc ms : Nat} {z : Int × St} {N : Nat} {K6 : (St → Option (Int × St))} {y2 : Int} {y3 : Int} (X : gX p s m meth c cX12_levelBehind 6 (some .boolean) yX12_levelBehind args E A) (hK6 : ∀ (t9 : St), K6 t9 = some z → gP p l e rm_f_X12_levelBehind s m args below meth c E A 6 (MQ below ((gqI E (gW E r shM) z) A) args s mc ms A) (gW E r shM) 136 [] [] t9) : ∀ (n9 : Nat) (x4 : Int) (t5 : St), f_X12_levelBehind_L7 N K6 y2 y3 n9 x4 t5 = some z → gP p l e rm_f_X12_levelBehind s m args below meth c E A 6 (MQ below ((gqI E (gW E r shM) z) A) args s mc ms A) (gW E r shM) 7 [(0, .ref (r 200)), (1, iv y2), (2, iv y3), (3, iv x4)] [] t5 := by
  intro n9
  induction n9 with
  | zero => intro x4 t5 h; cases h
  | succ n9 ih =>
    intro x4 t5 h
    unfold f_X12_levelBehind_L7 at h
    refine g_iload_n X dX12_levelBehind_7 3 rfl ?_
    refine g_iload_n X dX12_levelBehind_8 2 rfl ?_
    refine g_icmp_ge (tgt := 136) X dX12_levelBehind_9 (by decide) h (fun h => ?_) (fun h => ?_)
    · exact g_sub (lv' := []) [] rfl (hK6 t5 h)
    · refine g_aload_n X dX12_levelBehind_12 0 rfl ?_
      refine g_getR X fM_93 rfl dX12_levelBehind_13 ?_
      refine g_iload_n X dX12_levelBehind_16 3 rfl ?_
      refine g_iald X aM_93 dX12_levelBehind_17 h (fun v7 h => ?_)
      refine g_iload_n X dX12_levelBehind_18 1 rfl ?_
      refine g_join (J := fun jj => ∀ (t8 : St), jj  t8 = some z → gP p l e rm_f_X12_levelBehind s m args below meth c E A 6 (MQ below ((gqI E (gW E r shM) z) A) args s mc ms A) (gW E r shM) 130 [(0, .ref (r 200)), (1, iv y2), (2, iv y3), (3, iv x4)] [] t8) h (fun  t8 h => ?_) (fun J9 hJ9 h => ?_)
      · refine g_iinc (lv' := [(3, iv (x4 + 1)), (0, .ref (r 200)), (1, iv y2), (2, iv y3)]) X dX12_levelBehind_130 (k := 3) rfl (by decide) rfl ?_
        refine g_goto (tgt := 7) X dX12_levelBehind_133 (by decide) ?_
        exact g_sub (lv' := [(0, .ref (r 200)), (1, iv y2), (2, iv y3), (3, iv (x4 + 1))]) [1, 2, 3, 0] rfl (ih (x4 + 1) t8 h)
      refine g_icmp_eq (tgt := 25) X dX12_levelBehind_19 (by decide) h (fun h => ?_) (fun h => ?_)
      · refine g_iconst X dX12_levelBehind_25 ?_
        refine g_istore (lv' := [(4, iv 0), (0, .ref (r 200)), (1, iv y2), (2, iv y3), (3, iv x4)]) X dX12_levelBehind_26 (by decide) rfl ?_
        refine g_sub (lv' := [(0, .ref (r 200)), (1, iv y2), (2, iv y3), (3, iv x4), (4, iv 0)]) [1, 2, 3, 4, 0] rfl (t_f_X12_levelBehind_L28 X (fun t36 h => ?_) N 0 t5 h)
        · exact g_sub (lv' := [(0, .ref (r 200)), (1, iv y2), (2, iv y3), (3, iv x4)]) [0, 1, 2, 3] rfl (hJ9 t36 h)
      · refine g_goto (tgt := 130) X dX12_levelBehind_22 (by decide) ?_
        exact g_sub (lv' := [(0, .ref (r 200)), (1, iv y2), (2, iv y3), (3, iv x4)]) [0, 1, 2, 3] rfl (hJ9 t5 h)
set_option maxHeartbeats 4000000 in
set_option maxRecDepth 100000 in
theorem b_f_X12_levelBehind {p : Program} {l : Launch} {e : Env} {s : State} {m : MethodId} {args : Array Value} {below : List Frame} {meth : Method} {c : Code} {E : cE} {A : Nat → Prop} {r : Nat → Nat} {mc ms : Nat} {z : Int × St} {N : Nat} {a0 : Int} {t : St} (X : gX p s m meth c cX12_levelBehind 6 (some .boolean) yX12_levelBehind args E A) (h : f_X12_levelBehind N a0 t = some z) : gP p l e rm_f_X12_levelBehind s m args below meth c E A 6 (MQ below ((gqI E (gW E r shM) z) A) args s mc ms A) (gW E r shM) 0 [(0, .ref (r 200)), (1, iv a0)] [] t := by
  unfold f_X12_levelBehind at h
  refine g_aload_n X dX12_levelBehind_0 0 rfl ?_
  refine g_getI X fM_90 rfl dX12_levelBehind_1 h (fun v1 h => ?_)
  refine g_istore_n (lv' := [(2, iv v1), (0, .ref (r 200)), (1, iv a0)]) X dX12_levelBehind_4 rfl (by decide) rfl ?_
  refine g_iconst X dX12_levelBehind_5 ?_
  refine g_istore_n (lv' := [(3, iv 0), (2, iv v1), (0, .ref (r 200)), (1, iv a0)]) X dX12_levelBehind_6 rfl (by decide) rfl ?_
  refine g_sub (lv' := [(0, .ref (r 200)), (1, iv a0), (2, iv v1), (3, iv 0)]) [2, 3, 1, 0] rfl (t_f_X12_levelBehind_L7 X (fun t37 h => ?_) N 0 t h)
  · refine g_iconst X dX12_levelBehind_136 ?_
    exact g_zret X h dX12_levelBehind_137
set_option maxHeartbeats 4000000 in
set_option maxRecDepth 100000 in
theorem cp_X12_levelBehind (l : Launch) (E : cE) (r : Nat → Nat) (N : Nat) (a0 : Int) (t : St) (z : Int × St) (h : f_X12_levelBehind N a0 t = some z) : cM l E yX12_levelBehind cX12_levelBehind 6 (some .boolean) rm_f_X12_levelBehind [.ref (r 200), iv a0] (gW E r shM t) (gqI E (gW E r shM) z) := by
  refine g_of (w := gW E r shM) (by decide) (Nat.le_of_ble_eq_true rfl) ?_
  intro p e s m below meth c A X
  exact g_sub (lv' := [(0, .ref (r 200)), (1, iv a0)]) [0, 1] rfl (b_f_X12_levelBehind X h)
theorem yy_X12_levelBehind : cY yX12_levelBehind cX12_levelBehind 6 (some .boolean) 1 := ⟨wdK_X12_levelBehind, wdZ_RX12, by decide +kernel⟩
theorem yi_X12_levelBehind : cYi yX12_levelBehind := ⟨wdN_X12_levelBehind, wdS_X12_levelBehind⟩
theorem dX12_searches_0 : decode cX12_searches 0 = .ok (.aload_n 0, 1) := by decide +kernel
theorem dX12_searches_1 : decode cX12_searches 1 = .ok (.iconst 0, 1) := by decide +kernel
theorem dX12_searches_2 : decode cX12_searches 2 = .ok (.putfield 623, 3) := by decide +kernel
theorem dX12_searches_5 : decode cX12_searches 5 = .ok (.aload_n 0, 1) := by decide +kernel
theorem dX12_searches_6 : decode cX12_searches 6 = .ok (.iconst (-1), 1) := by decide +kernel
theorem dX12_searches_7 : decode cX12_searches 7 = .ok (.putfield 193, 3) := by decide +kernel
theorem dX12_searches_10 : decode cX12_searches 10 = .ok (.aload_n 0, 1) := by decide +kernel
theorem dX12_searches_11 : decode cX12_searches 11 = .ok (.aload_n 0, 1) := by decide +kernel
theorem dX12_searches_12 : decode cX12_searches 12 = .ok (.getfield 392, 3) := by decide +kernel
theorem dX12_searches_15 : decode cX12_searches 15 = .ok (.putfield 635, 3) := by decide +kernel
theorem dX12_searches_18 : decode cX12_searches 18 = .ok (.aload_n 0, 1) := by decide +kernel
theorem dX12_searches_19 : decode cX12_searches 19 = .ok (.iconst 0, 1) := by decide +kernel
theorem dX12_searches_20 : decode cX12_searches 20 = .ok (.invokevirtual 644, 3) := by decide +kernel
theorem dX12_searches_23 : decode cX12_searches 23 = .ok (.ifCond .ne 6, 3) := by decide +kernel
theorem dX12_searches_26 : decode cX12_searches 26 = .ok (.bipush (-2), 2) := by decide +kernel
theorem dX12_searches_28 : decode cX12_searches 28 = .ok (.ireturn, 1) := by decide +kernel
theorem dX12_searches_29 : decode cX12_searches 29 = .ok (.iconst 0, 1) := by decide +kernel
theorem dX12_searches_30 : decode cX12_searches 30 = .ok (.istore_n 2, 1) := by decide +kernel
theorem dX12_searches_31 : decode cX12_searches 31 = .ok (.aload_n 0, 1) := by decide +kernel
theorem dX12_searches_32 : decode cX12_searches 32 = .ok (.getfield 193, 3) := by decide +kernel
theorem dX12_searches_35 : decode cX12_searches 35 = .ok (.iconst (-1), 1) := by decide +kernel
theorem dX12_searches_36 : decode cX12_searches 36 = .ok (.if_icmp .ne 40, 3) := by decide +kernel
theorem dX12_searches_39 : decode cX12_searches 39 = .ok (.iload_n 2, 1) := by decide +kernel
theorem dX12_searches_40 : decode cX12_searches 40 = .ok (.iload_n 1, 1) := by decide +kernel
theorem dX12_searches_41 : decode cX12_searches 41 = .ok (.if_icmp .ge 35, 3) := by decide +kernel
theorem dX12_searches_44 : decode cX12_searches 44 = .ok (.aload_n 0, 1) := by decide +kernel
theorem dX12_searches_45 : decode cX12_searches 45 = .ok (.getfield 623, 3) := by decide +kernel
theorem dX12_searches_48 : decode cX12_searches 48 = .ok (.istore_n 3, 1) := by decide +kernel
theorem dX12_searches_49 : decode cX12_searches 49 = .ok (.aload_n 0, 1) := by decide +kernel
theorem dX12_searches_50 : decode cX12_searches 50 = .ok (.iload_n 2, 1) := by decide +kernel
theorem dX12_searches_51 : decode cX12_searches 51 = .ok (.invokevirtual 647, 3) := by decide +kernel
theorem dX12_searches_54 : decode cX12_searches 54 = .ok (.ifCond .ne 6, 3) := by decide +kernel
theorem dX12_searches_57 : decode cX12_searches 57 = .ok (.bipush (-2), 2) := by decide +kernel
theorem dX12_searches_59 : decode cX12_searches 59 = .ok (.ireturn, 1) := by decide +kernel
theorem dX12_searches_60 : decode cX12_searches 60 = .ok (.aload_n 0, 1) := by decide +kernel
theorem dX12_searches_61 : decode cX12_searches 61 = .ok (.getfield 623, 3) := by decide +kernel
theorem dX12_searches_64 : decode cX12_searches 64 = .ok (.iload_n 3, 1) := by decide +kernel
theorem dX12_searches_65 : decode cX12_searches 65 = .ok (.if_icmp .ne 5, 3) := by decide +kernel
theorem dX12_searches_68 : decode cX12_searches 68 = .ok (.iconst (-1), 1) := by decide +kernel
theorem dX12_searches_69 : decode cX12_searches 69 = .ok (.ireturn, 1) := by decide +kernel
theorem dX12_searches_70 : decode cX12_searches 70 = .ok (.iinc 2 1, 3) := by decide +kernel
theorem dX12_searches_73 : decode cX12_searches 73 = .ok (.goto (-42), 3) := by decide +kernel
theorem dX12_searches_76 : decode cX12_searches 76 = .ok (.aload_n 0, 1) := by decide +kernel
theorem dX12_searches_77 : decode cX12_searches 77 = .ok (.getfield 193, 3) := by decide +kernel
theorem dX12_searches_80 : decode cX12_searches 80 = .ok (.iconst (-1), 1) := by decide +kernel
theorem dX12_searches_81 : decode cX12_searches 81 = .ok (.if_icmp .ne 7, 3) := by decide +kernel
theorem dX12_searches_84 : decode cX12_searches 84 = .ok (.iconst (-1), 1) := by decide +kernel
theorem dX12_searches_85 : decode cX12_searches 85 = .ok (.goto 4, 3) := by decide +kernel
theorem dX12_searches_88 : decode cX12_searches 88 = .ok (.iload_n 2, 1) := by decide +kernel
theorem dX12_searches_89 : decode cX12_searches 89 = .ok (.ireturn, 1) := by decide +kernel
abbrev rm_f_X12_searches : Room := { frames := 106, cells := 0, slots := 0, locals := 6164 }
def f_X12_searches_L31 (N : Nat) (K10 : (Int → St → Option (Int × St))) (y7 : Int) : Nat → Int → St → Option (Int × St)
  | 0, _, _ => none
  | n9 + 1, x8, t9 =>
    lt1 (t9.1 200 99) fun v11 =>
    cmpI v11 (-1) (if v11 = (-1) then (cmpI x8 y7 (if x8 < y7 then (lt1 (t9.1 200 90) fun v12 =>
    bdI (f_X12_levelBehind N x8 t9) fun v14 t13 =>
    cmpI v14 0 (if v14 = 0 then (some ((-2), t13))
    else (lt1 (t13.1 200 90) fun v15 =>
    cmpI v15 v12 (if v15 = v12 then (some ((-1), t13))
    else (f_X12_searches_L31 N K10 y7 n9 (x8 + 1) t13)))))
    else (K10 x8 t9)))
    else (K10 x8 t9))
def f_X12_searches (N : Nat) (a0 : Int) (t : St) : Option (Int × St) :=
    lt1 (pI t 200 90 0) fun t1 =>
    lt1 (pI t1 200 99 (-1)) fun t2 =>
    lt1 (t2.1 200 17) fun v3 =>
    lt1 (pI t2 200 98 v3) fun t4 =>
    bdI (f_X12_meets N 0 t4) fun v6 t5 =>
    cmpI v6 0 (if v6 = 0 then (some ((-2), t5))
    else (f_X12_searches_L31 N (fun (k16 : Int) (t17 : St) => lt1 (t17.1 200 99) fun v18 =>
    cmpI v18 (-1) (if v18 = (-1) then (some ((-1), t17))
    else (some (k16, t17)))) a0 N 0 t5))
set_option maxHeartbeats 4000000 in
set_option maxRecDepth 100000 in
theorem t_f_X12_searches_L31 {p : Program} {l : Launch} {e : Env} {s : State} {m : MethodId} {args : Array Value} {below : List Frame} {meth : Method} {c : Code} {E : cE} {A : Nat → Prop} {r : Nat → Nat} {mc ms : Nat} {z : Int × St} {N : Nat} {K10 : (Int → St → Option (Int × St))} {y7 : Int} (X : gX p s m meth c cX12_searches 4 (some .int) yX12_searches args E A) (hK10 : ∀ (q2 : Int) (t9 : St), K10 q2 t9 = some z → gP p l e rm_f_X12_searches s m args below meth c E A 4 (MQ below ((gqI E (gW E r shM) z) A) args s mc ms A) (gW E r shM) 76 [(0, .ref (r 200)), (2, iv q2)] [] t9) : ∀ (n9 : Nat) (x8 : Int) (t9 : St), f_X12_searches_L31 N K10 y7 n9 x8 t9 = some z → gP p l e rm_f_X12_searches s m args below meth c E A 4 (MQ below ((gqI E (gW E r shM) z) A) args s mc ms A) (gW E r shM) 31 [(0, .ref (r 200)), (1, iv y7), (2, iv x8)] [] t9 := by
  intro n9
  induction n9 with
  | zero => intro x8 t9 h; cases h
  | succ n9 ih =>
    intro x8 t9 h
    unfold f_X12_searches_L31 at h
    refine g_aload_n X dX12_searches_31 0 rfl ?_
    refine g_getI X fM_99 rfl dX12_searches_32 h (fun v11 h => ?_)
    refine g_iconst X dX12_searches_35 ?_
    refine g_icmp_ne (tgt := 76) X dX12_searches_36 (by decide) h (fun h => ?_) (fun h => ?_)
    · exact g_sub (lv' := [(0, .ref (r 200)), (2, iv x8)]) [0, 2] rfl (hK10 x8 t9 h)
    · refine g_iload_n X dX12_searches_39 2 rfl ?_
      refine g_iload_n X dX12_searches_40 1 rfl ?_
      refine g_icmp_ge (tgt := 76) X dX12_searches_41 (by decide) h (fun h => ?_) (fun h => ?_)
      · exact g_sub (lv' := [(0, .ref (r 200)), (2, iv x8)]) [0, 2] rfl (hK10 x8 t9 h)
      · refine g_aload_n X dX12_searches_44 0 rfl ?_
        refine g_getI X fM_90 rfl dX12_searches_45 h (fun v12 h => ?_)
        refine g_istore_n (lv' := [(3, iv v12), (0, .ref (r 200)), (1, iv y7), (2, iv x8)]) X dX12_searches_48 rfl (by decide) rfl ?_
        refine g_aload_n X dX12_searches_49 1 rfl ?_
        refine g_iload_n X dX12_searches_50 3 rfl ?_
        refine g_callI (rest := []) X (fun u9 h9 => cp_X12_levelBehind l E r N x8 t9 u9 h9) yy_X12_levelBehind yi_X12_levelBehind wdM_RX12_647 0 12 (gW_at oM) rfl rfl rfl (Nat.le_of_ble_eq_true rfl) dX12_searches_51 ⟨by decide, by decide⟩ ⟨rfl, rfl⟩ h (fun v14 t13 h => ?_)
        refine g_if_ne (tgt := 60) X dX12_searches_54 (by decide) h (fun h => ?_) (fun h => ?_)
        · refine g_aload_n X dX12_searches_60 1 rfl ?_
          refine g_getI X fM_90 rfl dX12_searches_61 h (fun v15 h => ?_)
          refine g_iload_n X dX12_searches_64 0 rfl ?_
          refine g_icmp_ne (tgt := 70) X dX12_searches_65 (by decide) h (fun h => ?_) (fun h => ?_)
          · refine g_iinc (lv' := [(2, iv (x8 + 1)), (3, iv v12), (0, .ref (r 200)), (1, iv y7)]) X dX12_searches_70 (k := 3) rfl (by decide) rfl ?_
            refine g_goto (tgt := 31) X dX12_searches_73 (by decide) ?_
            exact g_sub (lv' := [(0, .ref (r 200)), (1, iv y7), (2, iv (x8 + 1))]) [2, 3, 0] rfl (ih (x8 + 1) t13 h)
          · refine g_iconst X dX12_searches_68 ?_
            exact g_iret X h dX12_searches_69
        · refine g_bipush X dX12_searches_57 (by decide) ?_
          exact g_iret X h dX12_searches_59
set_option maxHeartbeats 4000000 in
set_option maxRecDepth 100000 in
theorem b_f_X12_searches {p : Program} {l : Launch} {e : Env} {s : State} {m : MethodId} {args : Array Value} {below : List Frame} {meth : Method} {c : Code} {E : cE} {A : Nat → Prop} {r : Nat → Nat} {mc ms : Nat} {z : Int × St} {N : Nat} {a0 : Int} {t : St} (X : gX p s m meth c cX12_searches 4 (some .int) yX12_searches args E A) (h : f_X12_searches N a0 t = some z) : gP p l e rm_f_X12_searches s m args below meth c E A 4 (MQ below ((gqI E (gW E r shM) z) A) args s mc ms A) (gW E r shM) 0 [(0, .ref (r 200)), (1, iv a0)] [] t := by
  unfold f_X12_searches at h
  refine g_aload_n X dX12_searches_0 0 rfl ?_
  refine g_iconst X dX12_searches_1 ?_
  refine g_putI X fM_90w rfl dX12_searches_2 h (fun t1 h => ?_)
  refine g_aload_n X dX12_searches_5 0 rfl ?_
  refine g_iconst X dX12_searches_6 ?_
  refine g_putI X fM_99w rfl dX12_searches_7 h (fun t2 h => ?_)
  refine g_aload_n X dX12_searches_10 0 rfl ?_
  refine g_aload_n X dX12_searches_11 0 rfl ?_
  refine g_getI X fM_17 rfl dX12_searches_12 h (fun v3 h => ?_)
  refine g_putI X fM_98w rfl dX12_searches_15 h (fun t4 h => ?_)
  refine g_aload_n X dX12_searches_18 0 rfl ?_
  refine g_iconst X dX12_searches_19 ?_
  refine g_callI (rest := []) X (fun u9 h9 => cp_X12_meets l E r N 0 t4 u9 h9) yy_X12_meets yi_X12_meets wdM_RX12_644 0 12 (gW_at oM) rfl rfl rfl (Nat.le_of_ble_eq_true rfl) dX12_searches_20 ⟨by decide, by decide⟩ ⟨rfl, rfl⟩ h (fun v6 t5 h => ?_)
  refine g_if_ne (tgt := 29) X dX12_searches_23 (by decide) h (fun h => ?_) (fun h => ?_)
  · refine g_iconst X dX12_searches_29 ?_
    refine g_istore_n (lv' := [(2, iv 0), (0, .ref (r 200)), (1, iv a0)]) X dX12_searches_30 rfl (by decide) rfl ?_
    refine g_sub (lv' := [(0, .ref (r 200)), (1, iv a0), (2, iv 0)]) [1, 2, 0] rfl (t_f_X12_searches_L31 X (fun k16 t17 h => ?_) N 0 t5 h)
    · refine g_aload_n X dX12_searches_76 0 rfl ?_
      refine g_getI X fM_99 rfl dX12_searches_77 h (fun v18 h => ?_)
      refine g_iconst X dX12_searches_80 ?_
      refine g_icmp_ne (tgt := 88) X dX12_searches_81 (by decide) h (fun h => ?_) (fun h => ?_)
      · refine g_iload_n X dX12_searches_88 1 rfl ?_
        exact g_iret X h dX12_searches_89
      · refine g_iconst X dX12_searches_84 ?_
        refine g_goto (tgt := 89) X dX12_searches_85 (by decide) ?_
        exact g_iret X h dX12_searches_89
  · refine g_bipush X dX12_searches_26 (by decide) ?_
    exact g_iret X h dX12_searches_28
set_option maxHeartbeats 4000000 in
set_option maxRecDepth 100000 in
theorem cp_X12_searches (l : Launch) (E : cE) (r : Nat → Nat) (N : Nat) (a0 : Int) (t : St) (z : Int × St) (h : f_X12_searches N a0 t = some z) : cM l E yX12_searches cX12_searches 4 (some .int) rm_f_X12_searches [.ref (r 200), iv a0] (gW E r shM t) (gqI E (gW E r shM) z) := by
  refine g_of (w := gW E r shM) (by decide) (Nat.le_of_ble_eq_true rfl) ?_
  intro p e s m below meth c A X
  exact g_sub (lv' := [(0, .ref (r 200)), (1, iv a0)]) [0, 1] rfl (b_f_X12_searches X h)
theorem yy_X12_searches : cY yX12_searches cX12_searches 4 (some .int) 1 := ⟨wdK_X12_searches, wdZ_RX12, by decide +kernel⟩
theorem yi_X12_searches : cYi yX12_searches := ⟨wdN_X12_searches, wdS_X12_searches⟩
theorem dX12_resolve_0 : decode cX12_resolve 0 = .ok (.iload_n 1, 1) := by decide +kernel
theorem dX12_resolve_1 : decode cX12_resolve 1 = .ok (.iconst 0, 1) := by decide +kernel
theorem dX12_resolve_2 : decode cX12_resolve 2 = .ok (.bipush 12, 2) := by decide +kernel
theorem dX12_resolve_4 : decode cX12_resolve 4 = .ok (.invokestatic 227, 3) := by decide +kernel
theorem dX12_resolve_7 : decode cX12_resolve 7 = .ok (.ifCond .eq 12, 3) := by decide +kernel
theorem dX12_resolve_10 : decode cX12_resolve 10 = .ok (.aload_n 0, 1) := by decide +kernel
theorem dX12_resolve_11 : decode cX12_resolve 11 = .ok (.getfield 231, 3) := by decide +kernel
theorem dX12_resolve_14 : decode cX12_resolve 14 = .ok (.bipush 16, 2) := by decide +kernel
theorem dX12_resolve_16 : decode cX12_resolve 16 = .ok (.if_icmp .le 6, 3) := by decide +kernel
theorem dX12_resolve_19 : decode cX12_resolve 19 = .ok (.bipush (-3), 2) := by decide +kernel
theorem dX12_resolve_21 : decode cX12_resolve 21 = .ok (.ireturn, 1) := by decide +kernel
theorem dX12_resolve_22 : decode cX12_resolve 22 = .ok (.aload_n 0, 1) := by decide +kernel
theorem dX12_resolve_23 : decode cX12_resolve 23 = .ok (.lconst 0, 1) := by decide +kernel
theorem dX12_resolve_24 : decode cX12_resolve 24 = .ok (.putfield 248, 3) := by decide +kernel
theorem dX12_resolve_27 : decode cX12_resolve 27 = .ok (.aload_n 0, 1) := by decide +kernel
theorem dX12_resolve_28 : decode cX12_resolve 28 = .ok (.iconst (-1), 1) := by decide +kernel
theorem dX12_resolve_29 : decode cX12_resolve 29 = .ok (.putfield 196, 3) := by decide +kernel
theorem dX12_resolve_32 : decode cX12_resolve 32 = .ok (.aload_n 0, 1) := by decide +kernel
theorem dX12_resolve_33 : decode cX12_resolve 33 = .ok (.getfield 252, 3) := by decide +kernel
theorem dX12_resolve_36 : decode cX12_resolve 36 = .ok (.istore_n 2, 1) := by decide +kernel
theorem dX12_resolve_37 : decode cX12_resolve 37 = .ok (.aload_n 0, 1) := by decide +kernel
theorem dX12_resolve_38 : decode cX12_resolve 38 = .ok (.getfield 255, 3) := by decide +kernel
theorem dX12_resolve_41 : decode cX12_resolve 41 = .ok (.istore_n 3, 1) := by decide +kernel
theorem dX12_resolve_42 : decode cX12_resolve 42 = .ok (.aload_n 0, 1) := by decide +kernel
theorem dX12_resolve_43 : decode cX12_resolve 43 = .ok (.invokevirtual 650, 3) := by decide +kernel
theorem dX12_resolve_46 : decode cX12_resolve 46 = .ok (.aload_n 0, 1) := by decide +kernel
theorem dX12_resolve_47 : decode cX12_resolve 47 = .ok (.aload_n 0, 1) := by decide +kernel
theorem dX12_resolve_48 : decode cX12_resolve 48 = .ok (.iload_n 1, 1) := by decide +kernel
theorem dX12_resolve_49 : decode cX12_resolve 49 = .ok (.invokevirtual 653, 3) := by decide +kernel
theorem dX12_resolve_52 : decode cX12_resolve 52 = .ok (.putfield 656, 3) := by decide +kernel
theorem dX12_resolve_55 : decode cX12_resolve 55 = .ok (.aload_n 0, 1) := by decide +kernel
theorem dX12_resolve_56 : decode cX12_resolve 56 = .ok (.invokevirtual 659, 3) := by decide +kernel
theorem dX12_resolve_59 : decode cX12_resolve 59 = .ok (.aload_n 0, 1) := by decide +kernel
theorem dX12_resolve_60 : decode cX12_resolve 60 = .ok (.iload_n 2, 1) := by decide +kernel
theorem dX12_resolve_61 : decode cX12_resolve 61 = .ok (.putfield 252, 3) := by decide +kernel
theorem dX12_resolve_64 : decode cX12_resolve 64 = .ok (.aload_n 0, 1) := by decide +kernel
theorem dX12_resolve_65 : decode cX12_resolve 65 = .ok (.iload_n 3, 1) := by decide +kernel
theorem dX12_resolve_66 : decode cX12_resolve 66 = .ok (.putfield 255, 3) := by decide +kernel
theorem dX12_resolve_69 : decode cX12_resolve 69 = .ok (.aload_n 0, 1) := by decide +kernel
theorem dX12_resolve_70 : decode cX12_resolve 70 = .ok (.getfield 656, 3) := by decide +kernel
theorem dX12_resolve_73 : decode cX12_resolve 73 = .ok (.ifCond .ge 8, 3) := by decide +kernel
theorem dX12_resolve_76 : decode cX12_resolve 76 = .ok (.aload_n 0, 1) := by decide +kernel
theorem dX12_resolve_77 : decode cX12_resolve 77 = .ok (.getfield 656, 3) := by decide +kernel
theorem dX12_resolve_80 : decode cX12_resolve 80 = .ok (.ireturn, 1) := by decide +kernel
theorem dX12_resolve_81 : decode cX12_resolve 81 = .ok (.iconst 0, 1) := by decide +kernel
theorem dX12_resolve_82 : decode cX12_resolve 82 = .ok (.istore 4, 2) := by decide +kernel
theorem dX12_resolve_84 : decode cX12_resolve 84 = .ok (.iload 4, 2) := by decide +kernel
theorem dX12_resolve_86 : decode cX12_resolve 86 = .ok (.aload_n 0, 1) := by decide +kernel
theorem dX12_resolve_87 : decode cX12_resolve 87 = .ok (.getfield 635, 3) := by decide +kernel
theorem dX12_resolve_90 : decode cX12_resolve 90 = .ok (.if_icmp .ge 27, 3) := by decide +kernel
theorem dX12_resolve_93 : decode cX12_resolve 93 = .ok (.aload_n 0, 1) := by decide +kernel
theorem dX12_resolve_94 : decode cX12_resolve 94 = .ok (.getfield 190, 3) := by decide +kernel
theorem dX12_resolve_97 : decode cX12_resolve 97 = .ok (.iload 4, 2) := by decide +kernel
theorem dX12_resolve_99 : decode cX12_resolve 99 = .ok (.aload_n 0, 1) := by decide +kernel
theorem dX12_resolve_100 : decode cX12_resolve 100 = .ok (.aload_n 0, 1) := by decide +kernel
theorem dX12_resolve_101 : decode cX12_resolve 101 = .ok (.getfield 62, 3) := by decide +kernel
theorem dX12_resolve_104 : decode cX12_resolve 104 = .ok (.iload 4, 2) := by decide +kernel
theorem dX12_resolve_106 : decode cX12_resolve 106 = .ok (.iaload, 1) := by decide +kernel
theorem dX12_resolve_107 : decode cX12_resolve 107 = .ok (.invokevirtual 662, 3) := by decide +kernel
theorem dX12_resolve_110 : decode cX12_resolve 110 = .ok (.iastore, 1) := by decide +kernel
theorem dX12_resolve_111 : decode cX12_resolve 111 = .ok (.iinc 4 1, 3) := by decide +kernel
theorem dX12_resolve_114 : decode cX12_resolve 114 = .ok (.goto (-30), 3) := by decide +kernel
theorem dX12_resolve_117 : decode cX12_resolve 117 = .ok (.iconst 0, 1) := by decide +kernel
theorem dX12_resolve_118 : decode cX12_resolve 118 = .ok (.istore 4, 2) := by decide +kernel
theorem dX12_resolve_120 : decode cX12_resolve 120 = .ok (.iload 4, 2) := by decide +kernel
theorem dX12_resolve_122 : decode cX12_resolve 122 = .ok (.aload_n 0, 1) := by decide +kernel
theorem dX12_resolve_123 : decode cX12_resolve 123 = .ok (.getfield 623, 3) := by decide +kernel
theorem dX12_resolve_126 : decode cX12_resolve 126 = .ok (.if_icmp .ge 38, 3) := by decide +kernel
theorem dX12_resolve_129 : decode cX12_resolve 129 = .ok (.aload_n 0, 1) := by decide +kernel
theorem dX12_resolve_130 : decode cX12_resolve 130 = .ok (.getfield 184, 3) := by decide +kernel
theorem dX12_resolve_133 : decode cX12_resolve 133 = .ok (.iload 4, 2) := by decide +kernel
theorem dX12_resolve_135 : decode cX12_resolve 135 = .ok (.iload 4, 2) := by decide +kernel
theorem dX12_resolve_137 : decode cX12_resolve 137 = .ok (.aload_n 0, 1) := by decide +kernel
theorem dX12_resolve_138 : decode cX12_resolve 138 = .ok (.getfield 193, 3) := by decide +kernel
theorem dX12_resolve_141 : decode cX12_resolve 141 = .ok (.if_icmp .ne 7, 3) := by decide +kernel
theorem dX12_resolve_144 : decode cX12_resolve 144 = .ok (.lconst 1, 1) := by decide +kernel
theorem dX12_resolve_145 : decode cX12_resolve 145 = .ok (.goto 4, 3) := by decide +kernel
theorem dX12_resolve_148 : decode cX12_resolve 148 = .ok (.lconst 0, 1) := by decide +kernel
theorem dX12_resolve_149 : decode cX12_resolve 149 = .ok (.lastore, 1) := by decide +kernel
theorem dX12_resolve_150 : decode cX12_resolve 150 = .ok (.aload_n 0, 1) := by decide +kernel
theorem dX12_resolve_151 : decode cX12_resolve 151 = .ok (.getfield 187, 3) := by decide +kernel
theorem dX12_resolve_154 : decode cX12_resolve 154 = .ok (.iload 4, 2) := by decide +kernel
theorem dX12_resolve_156 : decode cX12_resolve 156 = .ok (.iconst 0, 1) := by decide +kernel
theorem dX12_resolve_157 : decode cX12_resolve 157 = .ok (.iastore, 1) := by decide +kernel
theorem dX12_resolve_158 : decode cX12_resolve 158 = .ok (.iinc 4 1, 3) := by decide +kernel
theorem dX12_resolve_161 : decode cX12_resolve 161 = .ok (.goto (-41), 3) := by decide +kernel
theorem dX12_resolve_164 : decode cX12_resolve 164 = .ok (.aload_n 0, 1) := by decide +kernel
theorem dX12_resolve_165 : decode cX12_resolve 165 = .ok (.getfield 656, 3) := by decide +kernel
theorem dX12_resolve_168 : decode cX12_resolve 168 = .ok (.iconst 1, 1) := by decide +kernel
theorem dX12_resolve_169 : decode cX12_resolve 169 = .ok (.isub, 1) := by decide +kernel
theorem dX12_resolve_170 : decode cX12_resolve 170 = .ok (.istore 4, 2) := by decide +kernel
theorem dX12_resolve_172 : decode cX12_resolve 172 = .ok (.iload 4, 2) := by decide +kernel
theorem dX12_resolve_174 : decode cX12_resolve 174 = .ok (.ifCond .lt 45, 3) := by decide +kernel
theorem dX12_resolve_177 : decode cX12_resolve 177 = .ok (.iconst 0, 1) := by decide +kernel
theorem dX12_resolve_178 : decode cX12_resolve 178 = .ok (.istore 5, 2) := by decide +kernel
theorem dX12_resolve_180 : decode cX12_resolve 180 = .ok (.iload 5, 2) := by decide +kernel
theorem dX12_resolve_182 : decode cX12_resolve 182 = .ok (.aload_n 0, 1) := by decide +kernel
theorem dX12_resolve_183 : decode cX12_resolve 183 = .ok (.getfield 623, 3) := by decide +kernel
theorem dX12_resolve_186 : decode cX12_resolve 186 = .ok (.if_icmp .ge 27, 3) := by decide +kernel
theorem dX12_resolve_189 : decode cX12_resolve 189 = .ok (.aload_n 0, 1) := by decide +kernel
theorem dX12_resolve_190 : decode cX12_resolve 190 = .ok (.getfield 177, 3) := by decide +kernel
theorem dX12_resolve_193 : decode cX12_resolve 193 = .ok (.iload 5, 2) := by decide +kernel
theorem dX12_resolve_195 : decode cX12_resolve 195 = .ok (.iaload, 1) := by decide +kernel
theorem dX12_resolve_196 : decode cX12_resolve 196 = .ok (.iload 4, 2) := by decide +kernel
theorem dX12_resolve_198 : decode cX12_resolve 198 = .ok (.if_icmp .ne 9, 3) := by decide +kernel
theorem dX12_resolve_201 : decode cX12_resolve 201 = .ok (.aload_n 0, 1) := by decide +kernel
theorem dX12_resolve_202 : decode cX12_resolve 202 = .ok (.iload 5, 2) := by decide +kernel
theorem dX12_resolve_204 : decode cX12_resolve 204 = .ok (.invokevirtual 665, 3) := by decide +kernel
theorem dX12_resolve_207 : decode cX12_resolve 207 = .ok (.iinc 5 1, 3) := by decide +kernel
theorem dX12_resolve_210 : decode cX12_resolve 210 = .ok (.goto (-30), 3) := by decide +kernel
theorem dX12_resolve_213 : decode cX12_resolve 213 = .ok (.iinc 4 (-1), 3) := by decide +kernel
theorem dX12_resolve_216 : decode cX12_resolve 216 = .ok (.goto (-44), 3) := by decide +kernel
theorem dX12_resolve_219 : decode cX12_resolve 219 = .ok (.aload_n 0, 1) := by decide +kernel
theorem dX12_resolve_220 : decode cX12_resolve 220 = .ok (.aload_n 0, 1) := by decide +kernel
theorem dX12_resolve_221 : decode cX12_resolve 221 = .ok (.getfield 184, 3) := by decide +kernel
theorem dX12_resolve_224 : decode cX12_resolve 224 = .ok (.iconst 0, 1) := by decide +kernel
theorem dX12_resolve_225 : decode cX12_resolve 225 = .ok (.laload, 1) := by decide +kernel
theorem dX12_resolve_226 : decode cX12_resolve 226 = .ok (.putfield 248, 3) := by decide +kernel
theorem dX12_resolve_229 : decode cX12_resolve 229 = .ok (.aload_n 0, 1) := by decide +kernel
theorem dX12_resolve_230 : decode cX12_resolve 230 = .ok (.getfield 656, 3) := by decide +kernel
theorem dX12_resolve_233 : decode cX12_resolve 233 = .ok (.ireturn, 1) := by decide +kernel
abbrev rm_f_X12_resolve : Room := { frames := 107, cells := 0, slots := 0, locals := 6187 }
def f_X12_resolve_L84 (N : Nat) (K18 : (St → Option (Int × St))) : Nat → Int → St → Option (Int × St)
  | 0, _, _ => none
  | n9 + 1, x16, t17 =>
    lt1 (t17.1 200 98) fun v19 =>
    cmpI x16 v19 (if x16 < v19 then (ixI x16 32 (lt1 (t17.1 30 x16.toNat) fun v20 =>
    bdI (f_X12_priceOf N v20 t17) fun v22 t21 =>
    ixI x16 32 (lt1 (pI t21 97 x16.toNat v22) fun t23 =>
    f_X12_resolve_L84 N K18 n9 (x16 + 1) t23)))
    else (K18 t17))
def f_X12_resolve_L120 (K27 : (St → Option (Int × St))) : Nat → Int → St → Option (Int × St)
  | 0, _, _ => none
  | n9 + 1, x25, t26 =>
    lt1 (t26.1 200 90) fun v28 =>
    cmpI x25 v28 (if x25 < v28 then (lt1 (t26.1 200 99) fun v29 =>
    jn1 (fun (j30 : Int64) (t31 : St) => ixI x25 2000 (lt1 (pL t31 95 x25.toNat j30) fun t33 =>
    ixI x25 2000 (lt1 (pI t33 96 x25.toNat 0) fun t34 =>
    f_X12_resolve_L120 K27 n9 (x25 + 1) t34))) fun J32 =>
    cmpI x25 v29 (if x25 = v29 then (J32 (1 : Int64) t26)
    else (J32 (0 : Int64) t26)))
    else (K27 t26))
def f_X12_resolve_L180 (N : Nat) (K43 : (St → Option (Int × St))) (y40 : Int) : Nat → Int → St → Option (Int × St)
  | 0, _, _ => none
  | n9 + 1, x41, t42 =>
    lt1 (t42.1 200 90) fun v44 =>
    cmpI x41 v44 (if x41 < v44 then (ixI x41 2000 (lt1 (t42.1 93 x41.toNat) fun v45 =>
    jn1 (fun (t46 : St) => f_X12_resolve_L180 N K43 y40 n9 (x41 + 1) t46) fun J47 =>
    cmpI v45 y40 (if v45 = y40 then (bdV (f_X12_reckonsWays N x41 t42) fun t48 =>
    J47 t48)
    else (J47 t42))))
    else (K43 t42))
def f_X12_resolve_L172 (N : Nat) (K39 : (St → Option (Int × St))) : Nat → Int → St → Option (Int × St)
  | 0, _, _ => none
  | n9 + 1, x37, t38 =>
    cmpI x37 0 (if x37 < 0 then (K39 t38)
    else (f_X12_resolve_L180 N (fun (t49 : St) => f_X12_resolve_L172 N K39 n9 (x37 + (-1)) t49) x37 N 0 t38))
def f_X12_resolve (N : Nat) (a0 : Int) (t : St) : Option (Int × St) :=
    bdI (f_X12_in N a0 0 12 t) fun v2 t1 =>
    cmpI v2 0 (if v2 = 0 then (some ((-3), t1))
    else (lt1 (t1.1 200 37) fun v3 =>
    cmpI v3 16 (if 16 < v3 then (some ((-3), t1))
    else (lt1 (pL t1 200 100 (0 : Int64)) fun t4 =>
    lt1 (pI t4 200 101 (-1)) fun t5 =>
    lt1 (t5.1 200 42) fun v6 =>
    lt1 (t5.1 200 43) fun v7 =>
    bdV (f_X12_savesFloor N t5) fun t8 =>
    bdI (f_X12_searches N a0 t8) fun v10 t9 =>
    lt1 (pI t9 200 91 v10) fun t11 =>
    bdV (f_X12_givesFloor N t11) fun t12 =>
    lt1 (pI t12 200 42 v6) fun t13 =>
    lt1 (pI t13 200 43 v7) fun t14 =>
    lt1 (t14.1 200 91) fun v15 =>
    cmpI v15 0 (if v15 < 0 then (lt1 (t14.1 200 91) fun v54 =>
    some (v54, t14))
    else (f_X12_resolve_L84 N (fun (t24 : St) => f_X12_resolve_L120 (fun (t35 : St) => lt1 (t35.1 200 91) fun v36 =>
    f_X12_resolve_L172 N (fun (t50 : St) => ixI 0 2000 (lt1 (t50.2 95 (0 : Int).toNat) fun v51 =>
    lt1 (pL t50 200 100 v51) fun t52 =>
    lt1 (t52.1 200 91) fun v53 =>
    some (v53, t52))) N (v36 - 1) t35) N 0 t24) N 0 t14))))))
set_option maxHeartbeats 4000000 in
set_option maxRecDepth 100000 in
theorem t_f_X12_resolve_L84 {p : Program} {l : Launch} {e : Env} {s : State} {m : MethodId} {args : Array Value} {below : List Frame} {meth : Method} {c : Code} {E : cE} {A : Nat → Prop} {r : Nat → Nat} {mc ms : Nat} {z : Int × St} {N : Nat} {K18 : (St → Option (Int × St))} (X : gX p s m meth c cX12_resolve 6 (some .int) yX12_resolve args E A) (hK18 : ∀ (t9 : St), K18 t9 = some z → gP p l e rm_f_X12_resolve s m args below meth c E A 6 (MQ below ((gqI E (gW E r shM) z) A) args s mc ms A) (gW E r shM) 117 [(0, .ref (r 200))] [] t9) : ∀ (n9 : Nat) (x16 : Int) (t17 : St), f_X12_resolve_L84 N K18 n9 x16 t17 = some z → gP p l e rm_f_X12_resolve s m args below meth c E A 6 (MQ below ((gqI E (gW E r shM) z) A) args s mc ms A) (gW E r shM) 84 [(0, .ref (r 200)), (4, iv x16)] [] t17 := by
  intro n9
  induction n9 with
  | zero => intro x16 t17 h; cases h
  | succ n9 ih =>
    intro x16 t17 h
    unfold f_X12_resolve_L84 at h
    refine g_iload X dX12_resolve_84 1 rfl ?_
    refine g_aload_n X dX12_resolve_86 0 rfl ?_
    refine g_getI X fM_98 rfl dX12_resolve_87 h (fun v19 h => ?_)
    refine g_icmp_ge (tgt := 117) X dX12_resolve_90 (by decide) h (fun h => ?_) (fun h => ?_)
    · exact g_sub (lv' := [(0, .ref (r 200))]) [0] rfl (hK18 t17 h)
    · refine g_aload_n X dX12_resolve_93 0 rfl ?_
      refine g_getR X fM_97 rfl dX12_resolve_94 ?_
      refine g_iload X dX12_resolve_97 1 rfl ?_
      refine g_aload_n X dX12_resolve_99 0 rfl ?_
      refine g_aload_n X dX12_resolve_100 0 rfl ?_
      refine g_getR X fM_30 rfl dX12_resolve_101 ?_
      refine g_iload X dX12_resolve_104 1 rfl ?_
      refine g_iald X aM_30 dX12_resolve_106 h (fun v20 h => ?_)
      refine g_callI (rest := [iv x16, .ref (r 97)]) X (fun u9 h9 => cp_X12_priceOf l E r N v20 t17 u9 h9) yy_X12_priceOf yi_X12_priceOf wdM_RX12_662 0 12 (gW_at oM) rfl rfl rfl (Nat.le_of_ble_eq_true rfl) dX12_resolve_107 ⟨by decide, by decide⟩ ⟨rfl, rfl⟩ h (fun v22 t21 h => ?_)
      refine g_iast X aM_97 dX12_resolve_110 h (fun t23 h => ?_)
      refine g_iinc (lv' := [(4, iv (x16 + 1)), (0, .ref (r 200))]) X dX12_resolve_111 (k := 1) rfl (by decide) rfl ?_
      refine g_goto (tgt := 84) X dX12_resolve_114 (by decide) ?_
      exact g_sub (lv' := [(0, .ref (r 200)), (4, iv (x16 + 1))]) [1, 0] rfl (ih (x16 + 1) t23 h)
set_option maxHeartbeats 4000000 in
set_option maxRecDepth 100000 in
theorem t_f_X12_resolve_L120 {p : Program} {l : Launch} {e : Env} {s : State} {m : MethodId} {args : Array Value} {below : List Frame} {meth : Method} {c : Code} {E : cE} {A : Nat → Prop} {r : Nat → Nat} {mc ms : Nat} {z : Int × St} {K27 : (St → Option (Int × St))} (X : gX p s m meth c cX12_resolve 6 (some .int) yX12_resolve args E A) (hK27 : ∀ (t9 : St), K27 t9 = some z → gP p l e rm_f_X12_resolve s m args below meth c E A 6 (MQ below ((gqI E (gW E r shM) z) A) args s mc ms A) (gW E r shM) 164 [(0, .ref (r 200))] [] t9) : ∀ (n9 : Nat) (x25 : Int) (t26 : St), f_X12_resolve_L120 K27 n9 x25 t26 = some z → gP p l e rm_f_X12_resolve s m args below meth c E A 6 (MQ below ((gqI E (gW E r shM) z) A) args s mc ms A) (gW E r shM) 120 [(0, .ref (r 200)), (4, iv x25)] [] t26 := by
  intro n9
  induction n9 with
  | zero => intro x25 t26 h; cases h
  | succ n9 ih =>
    intro x25 t26 h
    unfold f_X12_resolve_L120 at h
    refine g_iload X dX12_resolve_120 1 rfl ?_
    refine g_aload_n X dX12_resolve_122 0 rfl ?_
    refine g_getI X fM_90 rfl dX12_resolve_123 h (fun v28 h => ?_)
    refine g_icmp_ge (tgt := 164) X dX12_resolve_126 (by decide) h (fun h => ?_) (fun h => ?_)
    · exact g_sub (lv' := [(0, .ref (r 200))]) [0] rfl (hK27 t26 h)
    · refine g_aload_n X dX12_resolve_129 0 rfl ?_
      refine g_getR X fM_95 rfl dX12_resolve_130 ?_
      refine g_iload X dX12_resolve_133 1 rfl ?_
      refine g_iload X dX12_resolve_135 1 rfl ?_
      refine g_aload_n X dX12_resolve_137 0 rfl ?_
      refine g_getI X fM_99 rfl dX12_resolve_138 h (fun v29 h => ?_)
      refine g_join (J := fun jj => ∀ (j30 : Int64) (t31 : St), jj j30 t31 = some z → gP p l e rm_f_X12_resolve s m args below meth c E A 6 (MQ below ((gqI E (gW E r shM) z) A) args s mc ms A) (gW E r shM) 149 [(0, .ref (r 200)), (4, iv x25)] [.long j30, iv x25, .ref (r 95)] t31) h (fun j30 t31 h => ?_) (fun J32 hJ32 h => ?_)
      · refine g_last X aM_95 dX12_resolve_149 h (fun t33 h => ?_)
        refine g_aload_n X dX12_resolve_150 0 rfl ?_
        refine g_getR X fM_96 rfl dX12_resolve_151 ?_
        refine g_iload X dX12_resolve_154 1 rfl ?_
        refine g_iconst X dX12_resolve_156 ?_
        refine g_iast X aM_96 dX12_resolve_157 h (fun t34 h => ?_)
        refine g_iinc (lv' := [(4, iv (x25 + 1)), (0, .ref (r 200))]) X dX12_resolve_158 (k := 1) rfl (by decide) rfl ?_
        refine g_goto (tgt := 120) X dX12_resolve_161 (by decide) ?_
        exact g_sub (lv' := [(0, .ref (r 200)), (4, iv (x25 + 1))]) [1, 0] rfl (ih (x25 + 1) t34 h)
      refine g_icmp_ne (tgt := 148) X dX12_resolve_141 (by decide) h (fun h => ?_) (fun h => ?_)
      · refine g_lconst (v := 0) X dX12_resolve_148 (by decide) ?_
        exact g_sub (lv' := [(0, .ref (r 200)), (4, iv x25)]) [0, 1] rfl (hJ32 (0 : Int64) t26 h)
      · refine g_lconst (v := 1) X dX12_resolve_144 (by decide) ?_
        refine g_goto (tgt := 149) X dX12_resolve_145 (by decide) ?_
        exact g_sub (lv' := [(0, .ref (r 200)), (4, iv x25)]) [0, 1] rfl (hJ32 (1 : Int64) t26 h)
set_option maxHeartbeats 4000000 in
set_option maxRecDepth 100000 in
theorem t_f_X12_resolve_L180 {p : Program} {l : Launch} {e : Env} {s : State} {m : MethodId} {args : Array Value} {below : List Frame} {meth : Method} {c : Code} {E : cE} {A : Nat → Prop} {r : Nat → Nat} {mc ms : Nat} {z : Int × St} {N : Nat} {K43 : (St → Option (Int × St))} {y40 : Int} (X : gX p s m meth c cX12_resolve 6 (some .int) yX12_resolve args E A) (hK43 : ∀ (t9 : St), K43 t9 = some z → gP p l e rm_f_X12_resolve s m args below meth c E A 6 (MQ below ((gqI E (gW E r shM) z) A) args s mc ms A) (gW E r shM) 213 [(0, .ref (r 200)), (4, iv y40)] [] t9) : ∀ (n9 : Nat) (x41 : Int) (t42 : St), f_X12_resolve_L180 N K43 y40 n9 x41 t42 = some z → gP p l e rm_f_X12_resolve s m args below meth c E A 6 (MQ below ((gqI E (gW E r shM) z) A) args s mc ms A) (gW E r shM) 180 [(0, .ref (r 200)), (4, iv y40), (5, iv x41)] [] t42 := by
  intro n9
  induction n9 with
  | zero => intro x41 t42 h; cases h
  | succ n9 ih =>
    intro x41 t42 h
    unfold f_X12_resolve_L180 at h
    refine g_iload X dX12_resolve_180 2 rfl ?_
    refine g_aload_n X dX12_resolve_182 0 rfl ?_
    refine g_getI X fM_90 rfl dX12_resolve_183 h (fun v44 h => ?_)
    refine g_icmp_ge (tgt := 213) X dX12_resolve_186 (by decide) h (fun h => ?_) (fun h => ?_)
    · exact g_sub (lv' := [(0, .ref (r 200)), (4, iv y40)]) [0, 1] rfl (hK43 t42 h)
    · refine g_aload_n X dX12_resolve_189 0 rfl ?_
      refine g_getR X fM_93 rfl dX12_resolve_190 ?_
      refine g_iload X dX12_resolve_193 2 rfl ?_
      refine g_iald X aM_93 dX12_resolve_195 h (fun v45 h => ?_)
      refine g_iload X dX12_resolve_196 1 rfl ?_
      refine g_join (J := fun jj => ∀ (t46 : St), jj  t46 = some z → gP p l e rm_f_X12_resolve s m args below meth c E A 6 (MQ below ((gqI E (gW E r shM) z) A) args s mc ms A) (gW E r shM) 207 [(0, .ref (r 200)), (4, iv y40), (5, iv x41)] [] t46) h (fun  t46 h => ?_) (fun J47 hJ47 h => ?_)
      · refine g_iinc (lv' := [(5, iv (x41 + 1)), (0, .ref (r 200)), (4, iv y40)]) X dX12_resolve_207 (k := 2) rfl (by decide) rfl ?_
        refine g_goto (tgt := 180) X dX12_resolve_210 (by decide) ?_
        exact g_sub (lv' := [(0, .ref (r 200)), (4, iv y40), (5, iv (x41 + 1))]) [1, 2, 0] rfl (ih (x41 + 1) t46 h)
      refine g_icmp_ne (tgt := 207) X dX12_resolve_198 (by decide) h (fun h => ?_) (fun h => ?_)
      · exact g_sub (lv' := [(0, .ref (r 200)), (4, iv y40), (5, iv x41)]) [0, 1, 2] rfl (hJ47 t42 h)
      · refine g_aload_n X dX12_resolve_201 0 rfl ?_
        refine g_iload X dX12_resolve_202 2 rfl ?_
        refine g_callV (rest := []) X (fun u9 h9 => cp_X12_reckonsWays l E r N x41 t42 u9 h9) yy_X12_reckonsWays yi_X12_reckonsWays wdM_RX12_665 0 12 (gW_at oM) rfl rfl rfl (Nat.le_of_ble_eq_true rfl) dX12_resolve_204 ⟨by decide, by decide⟩ ⟨rfl, rfl⟩ h (fun t48 h => ?_)
        exact g_sub (lv' := [(0, .ref (r 200)), (4, iv y40), (5, iv x41)]) [0, 1, 2] rfl (hJ47 t48 h)
set_option maxHeartbeats 4000000 in
set_option maxRecDepth 100000 in
theorem t_f_X12_resolve_L172 {p : Program} {l : Launch} {e : Env} {s : State} {m : MethodId} {args : Array Value} {below : List Frame} {meth : Method} {c : Code} {E : cE} {A : Nat → Prop} {r : Nat → Nat} {mc ms : Nat} {z : Int × St} {N : Nat} {K39 : (St → Option (Int × St))} (X : gX p s m meth c cX12_resolve 6 (some .int) yX12_resolve args E A) (hK39 : ∀ (t9 : St), K39 t9 = some z → gP p l e rm_f_X12_resolve s m args below meth c E A 6 (MQ below ((gqI E (gW E r shM) z) A) args s mc ms A) (gW E r shM) 219 [(0, .ref (r 200))] [] t9) : ∀ (n9 : Nat) (x37 : Int) (t38 : St), f_X12_resolve_L172 N K39 n9 x37 t38 = some z → gP p l e rm_f_X12_resolve s m args below meth c E A 6 (MQ below ((gqI E (gW E r shM) z) A) args s mc ms A) (gW E r shM) 172 [(0, .ref (r 200)), (4, iv x37)] [] t38 := by
  intro n9
  induction n9 with
  | zero => intro x37 t38 h; cases h
  | succ n9 ih =>
    intro x37 t38 h
    unfold f_X12_resolve_L172 at h
    refine g_iload X dX12_resolve_172 1 rfl ?_
    refine g_if_lt (tgt := 219) X dX12_resolve_174 (by decide) h (fun h => ?_) (fun h => ?_)
    · exact g_sub (lv' := [(0, .ref (r 200))]) [0] rfl (hK39 t38 h)
    · refine g_iconst X dX12_resolve_177 ?_
      refine g_istore (lv' := [(5, iv 0), (0, .ref (r 200)), (4, iv x37)]) X dX12_resolve_178 (by decide) rfl ?_
      refine g_sub (lv' := [(0, .ref (r 200)), (4, iv x37), (5, iv 0)]) [1, 2, 0] rfl (t_f_X12_resolve_L180 X (fun t49 h => ?_) N 0 t38 h)
      · refine g_iinc (lv' := [(4, iv (x37 + (-1))), (0, .ref (r 200))]) X dX12_resolve_213 (k := 1) rfl (by decide) rfl ?_
        refine g_goto (tgt := 172) X dX12_resolve_216 (by decide) ?_
        exact g_sub (lv' := [(0, .ref (r 200)), (4, iv (x37 + (-1)))]) [1, 0] rfl (ih (x37 + (-1)) t49 h)
set_option maxHeartbeats 4000000 in
set_option maxRecDepth 100000 in
theorem b_f_X12_resolve {p : Program} {l : Launch} {e : Env} {s : State} {m : MethodId} {args : Array Value} {below : List Frame} {meth : Method} {c : Code} {E : cE} {A : Nat → Prop} {r : Nat → Nat} {mc ms : Nat} {z : Int × St} {N : Nat} {a0 : Int} {t : St} (X : gX p s m meth c cX12_resolve 6 (some .int) yX12_resolve args E A) (h : f_X12_resolve N a0 t = some z) : gP p l e rm_f_X12_resolve s m args below meth c E A 6 (MQ below ((gqI E (gW E r shM) z) A) args s mc ms A) (gW E r shM) 0 [(0, .ref (r 200)), (1, iv a0)] [] t := by
  unfold f_X12_resolve at h
  refine g_iload_n X dX12_resolve_0 1 rfl ?_
  refine g_iconst X dX12_resolve_1 ?_
  refine g_bipush X dX12_resolve_2 (by decide) ?_
  refine g_callsI (rest := []) X (fun u9 h9 => cp_X12_in l E r N a0 0 12 t u9 h9) yy_X12_in wdT_X12_in wdM_RX12_227 rfl rfl (Nat.le_of_ble_eq_true rfl) dX12_resolve_4 ⟨by decide, by decide⟩ ⟨rfl, rfl⟩ h (fun v2 t1 h => ?_)
  refine g_if_eq (tgt := 19) X dX12_resolve_7 (by decide) h (fun h => ?_) (fun h => ?_)
  · refine g_bipush X dX12_resolve_19 (by decide) ?_
    exact g_iret X h dX12_resolve_21
  · refine g_aload_n X dX12_resolve_10 0 rfl ?_
    refine g_getI X fM_37 rfl dX12_resolve_11 h (fun v3 h => ?_)
    refine g_bipush X dX12_resolve_14 (by decide) ?_
    refine g_icmp_le (tgt := 22) X dX12_resolve_16 (by decide) h (fun h => ?_) (fun h => ?_)
    · refine g_aload_n X dX12_resolve_22 0 rfl ?_
      refine g_lconst (v := 0) X dX12_resolve_23 (by decide) ?_
      refine g_putL X fM_100w rfl dX12_resolve_24 h (fun t4 h => ?_)
      refine g_aload_n X dX12_resolve_27 0 rfl ?_
      refine g_iconst X dX12_resolve_28 ?_
      refine g_putI X fM_101w rfl dX12_resolve_29 h (fun t5 h => ?_)
      refine g_aload_n X dX12_resolve_32 0 rfl ?_
      refine g_getI X fM_42 rfl dX12_resolve_33 h (fun v6 h => ?_)
      refine g_istore_n (lv' := [(2, iv v6), (0, .ref (r 200)), (1, iv a0)]) X dX12_resolve_36 rfl (by decide) rfl ?_
      refine g_aload_n X dX12_resolve_37 1 rfl ?_
      refine g_getI X fM_43 rfl dX12_resolve_38 h (fun v7 h => ?_)
      refine g_istore_n (lv' := [(3, iv v7), (2, iv v6), (0, .ref (r 200)), (1, iv a0)]) X dX12_resolve_41 rfl (by decide) rfl ?_
      refine g_aload_n X dX12_resolve_42 2 rfl ?_
      refine g_callV (rest := []) X (fun u9 h9 => cp_X12_savesFloor l E r N t5 u9 h9) yy_X12_savesFloor yi_X12_savesFloor wdM_RX12_650 0 12 (gW_at oM) rfl rfl rfl (Nat.le_of_ble_eq_true rfl) dX12_resolve_43 ⟨by decide, by decide⟩ ⟨rfl, rfl⟩ h (fun t8 h => ?_)
      refine g_aload_n X dX12_resolve_46 2 rfl ?_
      refine g_aload_n X dX12_resolve_47 2 rfl ?_
      refine g_iload_n X dX12_resolve_48 3 rfl ?_
      refine g_callI (rest := [.ref (r 200)]) X (fun u9 h9 => cp_X12_searches l E r N a0 t8 u9 h9) yy_X12_searches yi_X12_searches wdM_RX12_653 0 12 (gW_at oM) rfl rfl rfl (Nat.le_of_ble_eq_true rfl) dX12_resolve_49 ⟨by decide, by decide⟩ ⟨rfl, rfl⟩ h (fun v10 t9 h => ?_)
      refine g_putI X fM_91w rfl dX12_resolve_52 h (fun t11 h => ?_)
      refine g_aload_n X dX12_resolve_55 2 rfl ?_
      refine g_callV (rest := []) X (fun u9 h9 => cp_X12_givesFloor l E r N t11 u9 h9) yy_X12_givesFloor yi_X12_givesFloor wdM_RX12_659 0 12 (gW_at oM) rfl rfl rfl (Nat.le_of_ble_eq_true rfl) dX12_resolve_56 ⟨by decide, by decide⟩ ⟨rfl, rfl⟩ h (fun t12 h => ?_)
      refine g_aload_n X dX12_resolve_59 2 rfl ?_
      refine g_iload_n X dX12_resolve_60 1 rfl ?_
      refine g_putI X fM_42w rfl dX12_resolve_61 h (fun t13 h => ?_)
      refine g_aload_n X dX12_resolve_64 2 rfl ?_
      refine g_iload_n X dX12_resolve_65 0 rfl ?_
      refine g_putI X fM_43w rfl dX12_resolve_66 h (fun t14 h => ?_)
      refine g_aload_n X dX12_resolve_69 2 rfl ?_
      refine g_getI X fM_91 rfl dX12_resolve_70 h (fun v15 h => ?_)
      refine g_if_ge (tgt := 81) X dX12_resolve_73 (by decide) h (fun h => ?_) (fun h => ?_)
      · refine g_iconst X dX12_resolve_81 ?_
        refine g_istore (lv' := [(4, iv 0), (3, iv v7), (2, iv v6), (0, .ref (r 200)), (1, iv a0)]) X dX12_resolve_82 (by decide) rfl ?_
        refine g_sub (lv' := [(0, .ref (r 200)), (4, iv 0)]) [3, 0] rfl (t_f_X12_resolve_L84 X (fun t24 h => ?_) N 0 t14 h)
        · refine g_iconst X dX12_resolve_117 ?_
          refine g_istore (lv' := [(4, iv 0), (0, .ref (r 200))]) X dX12_resolve_118 (by decide) rfl ?_
          refine g_sub (lv' := [(0, .ref (r 200)), (4, iv 0)]) [1, 0] rfl (t_f_X12_resolve_L120 X (fun t35 h => ?_) N 0 t24 h)
          · refine g_aload_n X dX12_resolve_164 0 rfl ?_
            refine g_getI X fM_91 rfl dX12_resolve_165 h (fun v36 h => ?_)
            refine g_iconst X dX12_resolve_168 ?_
            refine g_isub X dX12_resolve_169 ?_
            refine g_istore (lv' := [(4, iv (v36 - 1)), (0, .ref (r 200))]) X dX12_resolve_170 (by decide) rfl ?_
            refine g_sub (lv' := [(0, .ref (r 200)), (4, iv (v36 - 1))]) [1, 0] rfl (t_f_X12_resolve_L172 X (fun t50 h => ?_) N (v36 - 1) t35 h)
            · refine g_aload_n X dX12_resolve_219 0 rfl ?_
              refine g_aload_n X dX12_resolve_220 0 rfl ?_
              refine g_getR X fM_95 rfl dX12_resolve_221 ?_
              refine g_iconst X dX12_resolve_224 ?_
              refine g_lald X aM_95 dX12_resolve_225 h (fun v51 h => ?_)
              refine g_putL X fM_100w rfl dX12_resolve_226 h (fun t52 h => ?_)
              refine g_aload_n X dX12_resolve_229 0 rfl ?_
              refine g_getI X fM_91 rfl dX12_resolve_230 h (fun v53 h => ?_)
              exact g_iret X h dX12_resolve_233
      · refine g_aload_n X dX12_resolve_76 2 rfl ?_
        refine g_getI X fM_91 rfl dX12_resolve_77 h (fun v54 h => ?_)
        exact g_iret X h dX12_resolve_80
    · refine g_bipush X dX12_resolve_19 (by decide) ?_
      exact g_iret X h dX12_resolve_21
set_option maxHeartbeats 4000000 in
set_option maxRecDepth 100000 in
theorem cp_X12_resolve (l : Launch) (E : cE) (r : Nat → Nat) (N : Nat) (a0 : Int) (t : St) (z : Int × St) (h : f_X12_resolve N a0 t = some z) : cM l E yX12_resolve cX12_resolve 6 (some .int) rm_f_X12_resolve [.ref (r 200), iv a0] (gW E r shM t) (gqI E (gW E r shM) z) := by
  refine g_of (w := gW E r shM) (by decide) (Nat.le_of_ble_eq_true rfl) ?_
  intro p e s m below meth c A X
  exact g_sub (lv' := [(0, .ref (r 200)), (1, iv a0)]) [0, 1] rfl (b_f_X12_resolve X h)
theorem yy_X12_resolve : cY yX12_resolve cX12_resolve 6 (some .int) 1 := ⟨wdK_X12_resolve, wdZ_RX12, by decide +kernel⟩
theorem yi_X12_resolve : cYi yX12_resolve := ⟨wdN_X12_resolve, wdS_X12_resolve⟩
theorem dX12_follow_0 : decode cX12_follow 0 = .ok (.aload_n 0, 1) := by decide +kernel
theorem dX12_follow_1 : decode cX12_follow 1 = .ok (.getfield 671, 3) := by decide +kernel
theorem dX12_follow_4 : decode cX12_follow 4 = .ok (.aload_n 0, 1) := by decide +kernel
theorem dX12_follow_5 : decode cX12_follow 5 = .ok (.getfield 196, 3) := by decide +kernel
theorem dX12_follow_8 : decode cX12_follow 8 = .ok (.if_icmp .lt 5, 3) := by decide +kernel
theorem dX12_follow_11 : decode cX12_follow 11 = .ok (.iconst (-1), 1) := by decide +kernel
theorem dX12_follow_12 : decode cX12_follow 12 = .ok (.ireturn, 1) := by decide +kernel
theorem dX12_follow_13 : decode cX12_follow 13 = .ok (.aload_n 0, 1) := by decide +kernel
theorem dX12_follow_14 : decode cX12_follow 14 = .ok (.invokevirtual 577, 3) := by decide +kernel
theorem dX12_follow_17 : decode cX12_follow 17 = .ok (.aload_n 0, 1) := by decide +kernel
theorem dX12_follow_18 : decode cX12_follow 18 = .ok (.aload_n 0, 1) := by decide +kernel
theorem dX12_follow_19 : decode cX12_follow 19 = .ok (.getfield 62, 3) := by decide +kernel
theorem dX12_follow_22 : decode cX12_follow 22 = .ok (.aload_n 0, 1) := by decide +kernel
theorem dX12_follow_23 : decode cX12_follow 23 = .ok (.getfield 199, 3) := by decide +kernel
theorem dX12_follow_26 : decode cX12_follow 26 = .ok (.aload_n 0, 1) := by decide +kernel
theorem dX12_follow_27 : decode cX12_follow 27 = .ok (.getfield 671, 3) := by decide +kernel
theorem dX12_follow_30 : decode cX12_follow 30 = .ok (.iaload, 1) := by decide +kernel
theorem dX12_follow_31 : decode cX12_follow 31 = .ok (.iaload, 1) := by decide +kernel
theorem dX12_follow_32 : decode cX12_follow 32 = .ok (.aload_n 0, 1) := by decide +kernel
theorem dX12_follow_33 : decode cX12_follow 33 = .ok (.invokevirtual 580, 3) := by decide +kernel
theorem dX12_follow_36 : decode cX12_follow 36 = .ok (.invokevirtual 584, 3) := by decide +kernel
theorem dX12_follow_39 : decode cX12_follow 39 = .ok (.istore_n 1, 1) := by decide +kernel
theorem dX12_follow_40 : decode cX12_follow 40 = .ok (.iload_n 1, 1) := by decide +kernel
theorem dX12_follow_41 : decode cX12_follow 41 = .ok (.ifCond .le 5, 3) := by decide +kernel
theorem dX12_follow_44 : decode cX12_follow 44 = .ok (.iload_n 1, 1) := by decide +kernel
theorem dX12_follow_45 : decode cX12_follow 45 = .ok (.ireturn, 1) := by decide +kernel
theorem dX12_follow_46 : decode cX12_follow 46 = .ok (.aload_n 0, 1) := by decide +kernel
theorem dX12_follow_47 : decode cX12_follow 47 = .ok (.invokevirtual 588, 3) := by decide +kernel
theorem dX12_follow_50 : decode cX12_follow 50 = .ok (.aload_n 0, 1) := by decide +kernel
theorem dX12_follow_51 : decode cX12_follow 51 = .ok (.dup, 1) := by decide +kernel
theorem dX12_follow_52 : decode cX12_follow 52 = .ok (.getfield 671, 3) := by decide +kernel
theorem dX12_follow_55 : decode cX12_follow 55 = .ok (.iconst 1, 1) := by decide +kernel
theorem dX12_follow_56 : decode cX12_follow 56 = .ok (.iadd, 1) := by decide +kernel
theorem dX12_follow_57 : decode cX12_follow 57 = .ok (.putfield 671, 3) := by decide +kernel
theorem dX12_follow_60 : decode cX12_follow 60 = .ok (.iconst 0, 1) := by decide +kernel
theorem dX12_follow_61 : decode cX12_follow 61 = .ok (.ireturn, 1) := by decide +kernel
abbrev rm_f_X12_follow : Room := { frames := 106, cells := 0, slots := 0, locals := 6162 }
def f_X12_follow (N : Nat) (t : St) : Option (Int × St) :=
    lt1 (t.1 200 102) fun v1 =>
    lt1 (t.1 200 101) fun v2 =>
    cmpI v1 v2 (if v1 < v2 then (bdV (f_X12_writes N t) fun t3 =>
    lt1 (t3.1 200 102) fun v4 =>
    ixI v4 12 (lt1 (t3.1 103 v4.toNat) fun v5 =>
    ixI v5 32 (lt1 (t3.1 30 v5.toNat) fun v6 =>
    bdL (f_X12_everybody N t3) fun v8 t7 =>
    bdI (f_X12_dances N v6 v8 t7) fun v10 t9 =>
    cmpI v10 0 (if 0 < v10 then (some (v10, t9))
    else (bdV (f_X12_keeps N t9) fun t11 =>
    lt1 (t11.1 200 102) fun v12 =>
    lt1 (pI t11 200 102 (v12 + 1)) fun t13 =>
    some (0, t13))))))
    else (some ((-1), t)))
set_option maxHeartbeats 4000000 in
set_option maxRecDepth 100000 in
theorem b_f_X12_follow {p : Program} {l : Launch} {e : Env} {s : State} {m : MethodId} {args : Array Value} {below : List Frame} {meth : Method} {c : Code} {E : cE} {A : Nat → Prop} {r : Nat → Nat} {mc ms : Nat} {z : Int × St} {N : Nat} {t : St} (X : gX p s m meth c cX12_follow 2 (some .int) yX12_follow args E A) (h : f_X12_follow N t = some z) : gP p l e rm_f_X12_follow s m args below meth c E A 2 (MQ below ((gqI E (gW E r shM) z) A) args s mc ms A) (gW E r shM) 0 [(0, .ref (r 200))] [] t := by
  unfold f_X12_follow at h
  refine g_aload_n X dX12_follow_0 0 rfl ?_
  refine g_getI X fM_102 rfl dX12_follow_1 h (fun v1 h => ?_)
  refine g_aload_n X dX12_follow_4 0 rfl ?_
  refine g_getI X fM_101 rfl dX12_follow_5 h (fun v2 h => ?_)
  refine g_icmp_lt (tgt := 13) X dX12_follow_8 (by decide) h (fun h => ?_) (fun h => ?_)
  · refine g_aload_n X dX12_follow_13 0 rfl ?_
    refine g_callV (rest := []) X (fun u9 h9 => cp_X12_writes l E r N t u9 h9) yy_X12_writes yi_X12_writes wdM_RX12_577 0 12 (gW_at oM) rfl rfl rfl (Nat.le_of_ble_eq_true rfl) dX12_follow_14 ⟨by decide, by decide⟩ ⟨rfl, rfl⟩ h (fun t3 h => ?_)
    refine g_aload_n X dX12_follow_17 0 rfl ?_
    refine g_aload_n X dX12_follow_18 0 rfl ?_
    refine g_getR X fM_30 rfl dX12_follow_19 ?_
    refine g_aload_n X dX12_follow_22 0 rfl ?_
    refine g_getR X fM_103 rfl dX12_follow_23 ?_
    refine g_aload_n X dX12_follow_26 0 rfl ?_
    refine g_getI X fM_102 rfl dX12_follow_27 h (fun v4 h => ?_)
    refine g_iald X aM_103 dX12_follow_30 h (fun v5 h => ?_)
    refine g_iald X aM_30 dX12_follow_31 h (fun v6 h => ?_)
    refine g_aload_n X dX12_follow_32 0 rfl ?_
    refine g_callL (rest := [iv v6, .ref (r 200)]) X (fun u9 h9 => cp_X12_everybody l E r N t3 u9 h9) yy_X12_everybody yi_X12_everybody wdM_RX12_580 0 12 (gW_at oM) rfl rfl rfl (Nat.le_of_ble_eq_true rfl) dX12_follow_33 ⟨by decide, by decide⟩ ⟨rfl, rfl⟩ h (fun v8 t7 h => ?_)
    refine g_callI (rest := []) X (fun u9 h9 => cp_X12_dances l E r N v6 v8 t7 u9 h9) yy_X12_dances yi_X12_dances wdM_RX12_584 0 12 (gW_at oM) rfl rfl rfl (Nat.le_of_ble_eq_true rfl) dX12_follow_36 ⟨by decide, by decide⟩ ⟨rfl, rfl⟩ h (fun v10 t9 h => ?_)
    refine g_istore_n (lv' := [(1, iv v10), (0, .ref (r 200))]) X dX12_follow_39 rfl (by decide) rfl ?_
    refine g_iload_n X dX12_follow_40 0 rfl ?_
    refine g_if_le (tgt := 46) X dX12_follow_41 (by decide) h (fun h => ?_) (fun h => ?_)
    · refine g_aload_n X dX12_follow_46 1 rfl ?_
      refine g_callV (rest := []) X (fun u9 h9 => cp_X12_keeps l E r N t9 u9 h9) yy_X12_keeps yi_X12_keeps wdM_RX12_588 0 12 (gW_at oM) rfl rfl rfl (Nat.le_of_ble_eq_true rfl) dX12_follow_47 ⟨by decide, by decide⟩ ⟨rfl, rfl⟩ h (fun t11 h => ?_)
      refine g_aload_n X dX12_follow_50 1 rfl ?_
      refine g_dup X rfl dX12_follow_51 ?_
      refine g_getI X fM_102 rfl dX12_follow_52 h (fun v12 h => ?_)
      refine g_iconst X dX12_follow_55 ?_
      refine g_iadd X dX12_follow_56 ?_
      refine g_putI X fM_102w rfl dX12_follow_57 h (fun t13 h => ?_)
      refine g_iconst X dX12_follow_60 ?_
      exact g_iret X h dX12_follow_61
    · refine g_iload_n X dX12_follow_44 0 rfl ?_
      exact g_iret X h dX12_follow_45
  · refine g_iconst X dX12_follow_11 ?_
    exact g_iret X h dX12_follow_12
set_option maxHeartbeats 4000000 in
set_option maxRecDepth 100000 in
theorem cp_X12_follow (l : Launch) (E : cE) (r : Nat → Nat) (N : Nat) (t : St) (z : Int × St) (h : f_X12_follow N t = some z) : cM l E yX12_follow cX12_follow 2 (some .int) rm_f_X12_follow [.ref (r 200)] (gW E r shM t) (gqI E (gW E r shM) z) := by
  refine g_of (w := gW E r shM) (by decide) (Nat.le_of_ble_eq_true rfl) ?_
  intro p e s m below meth c A X
  exact g_sub (lv' := [(0, .ref (r 200))]) [0] rfl (b_f_X12_follow X h)
theorem yy_X12_follow : cY yX12_follow cX12_follow 2 (some .int) 0 := ⟨wdK_X12_follow, wdZ_RX12, by decide +kernel⟩
theorem yi_X12_follow : cYi yX12_follow := ⟨wdN_X12_follow, wdS_X12_follow⟩
theorem dX12_dancesOn_0 : decode cX12_dancesOn 0 = .ok (.iconst 0, 1) := by decide +kernel
theorem dX12_dancesOn_1 : decode cX12_dancesOn 1 = .ok (.istore_n 2, 1) := by decide +kernel
theorem dX12_dancesOn_2 : decode cX12_dancesOn 2 = .ok (.iconst 1, 1) := by decide +kernel
theorem dX12_dancesOn_3 : decode cX12_dancesOn 3 = .ok (.istore_n 3, 1) := by decide +kernel
theorem dX12_dancesOn_4 : decode cX12_dancesOn 4 = .ok (.iload_n 3, 1) := by decide +kernel
theorem dX12_dancesOn_5 : decode cX12_dancesOn 5 = .ok (.bipush 100, 2) := by decide +kernel
theorem dX12_dancesOn_7 : decode cX12_dancesOn 7 = .ok (.if_icmp .gt 103, 3) := by decide +kernel
theorem dX12_dancesOn_10 : decode cX12_dancesOn 10 = .ok (.aload_n 0, 1) := by decide +kernel
theorem dX12_dancesOn_11 : decode cX12_dancesOn 11 = .ok (.iload_n 1, 1) := by decide +kernel
theorem dX12_dancesOn_12 : decode cX12_dancesOn 12 = .ok (.invokevirtual 595, 3) := by decide +kernel
theorem dX12_dancesOn_15 : decode cX12_dancesOn 15 = .ok (.aload_n 0, 1) := by decide +kernel
theorem dX12_dancesOn_16 : decode cX12_dancesOn 16 = .ok (.invokevirtual 620, 3) := by decide +kernel
theorem dX12_dancesOn_19 : decode cX12_dancesOn 19 = .ok (.istore 4, 2) := by decide +kernel
theorem dX12_dancesOn_21 : decode cX12_dancesOn 21 = .ok (.iload 4, 2) := by decide +kernel
theorem dX12_dancesOn_23 : decode cX12_dancesOn 23 = .ok (.iconst 1, 1) := by decide +kernel
theorem dX12_dancesOn_24 : decode cX12_dancesOn 24 = .ok (.if_icmp .ne 53, 3) := by decide +kernel
theorem dX12_dancesOn_27 : decode cX12_dancesOn 27 = .ok (.iinc 2 1, 3) := by decide +kernel
theorem dX12_dancesOn_30 : decode cX12_dancesOn 30 = .ok (.iload_n 2, 1) := by decide +kernel
theorem dX12_dancesOn_31 : decode cX12_dancesOn 31 = .ok (.sipush 2000, 3) := by decide +kernel
theorem dX12_dancesOn_34 : decode cX12_dancesOn 34 = .ok (.if_icmp .le 6, 3) := by decide +kernel
theorem dX12_dancesOn_37 : decode cX12_dancesOn 37 = .ok (.bipush (-2), 2) := by decide +kernel
theorem dX12_dancesOn_39 : decode cX12_dancesOn 39 = .ok (.ireturn, 1) := by decide +kernel
theorem dX12_dancesOn_40 : decode cX12_dancesOn 40 = .ok (.aload_n 0, 1) := by decide +kernel
theorem dX12_dancesOn_41 : decode cX12_dancesOn 41 = .ok (.aload_n 0, 1) := by decide +kernel
theorem dX12_dancesOn_42 : decode cX12_dancesOn 42 = .ok (.getfield 608, 3) := by decide +kernel
theorem dX12_dancesOn_45 : decode cX12_dancesOn 45 = .ok (.aload_n 0, 1) := by decide +kernel
theorem dX12_dancesOn_46 : decode cX12_dancesOn 46 = .ok (.getfield 110, 3) := by decide +kernel
theorem dX12_dancesOn_49 : decode cX12_dancesOn 49 = .ok (.aload_n 0, 1) := by decide +kernel
theorem dX12_dancesOn_50 : decode cX12_dancesOn 50 = .ok (.getfield 245, 3) := by decide +kernel
theorem dX12_dancesOn_53 : decode cX12_dancesOn 53 = .ok (.iconst 1, 1) := by decide +kernel
theorem dX12_dancesOn_54 : decode cX12_dancesOn 54 = .ok (.isub, 1) := by decide +kernel
theorem dX12_dancesOn_55 : decode cX12_dancesOn 55 = .ok (.laload, 1) := by decide +kernel
theorem dX12_dancesOn_56 : decode cX12_dancesOn 56 = .ok (.invokevirtual 559, 3) := by decide +kernel
theorem dX12_dancesOn_59 : decode cX12_dancesOn 59 = .ok (.ifCond .ne 5, 3) := by decide +kernel
theorem dX12_dancesOn_62 : decode cX12_dancesOn 62 = .ok (.iconst (-1), 1) := by decide +kernel
theorem dX12_dancesOn_63 : decode cX12_dancesOn 63 = .ok (.ireturn, 1) := by decide +kernel
theorem dX12_dancesOn_64 : decode cX12_dancesOn 64 = .ok (.aload_n 0, 1) := by decide +kernel
theorem dX12_dancesOn_65 : decode cX12_dancesOn 65 = .ok (.invokevirtual 566, 3) := by decide +kernel
theorem dX12_dancesOn_68 : decode cX12_dancesOn 68 = .ok (.aload_n 0, 1) := by decide +kernel
theorem dX12_dancesOn_69 : decode cX12_dancesOn 69 = .ok (.invokevirtual 620, 3) := by decide +kernel
theorem dX12_dancesOn_72 : decode cX12_dancesOn 72 = .ok (.istore 4, 2) := by decide +kernel
theorem dX12_dancesOn_74 : decode cX12_dancesOn 74 = .ok (.goto (-53), 3) := by decide +kernel
theorem dX12_dancesOn_77 : decode cX12_dancesOn 77 = .ok (.iload 4, 2) := by decide +kernel
theorem dX12_dancesOn_79 : decode cX12_dancesOn 79 = .ok (.ifCond .eq 16, 3) := by decide +kernel
theorem dX12_dancesOn_82 : decode cX12_dancesOn 82 = .ok (.iload 4, 2) := by decide +kernel
theorem dX12_dancesOn_84 : decode cX12_dancesOn 84 = .ok (.iconst 4, 1) := by decide +kernel
theorem dX12_dancesOn_85 : decode cX12_dancesOn 85 = .ok (.if_icmp .ne 8, 3) := by decide +kernel
theorem dX12_dancesOn_88 : decode cX12_dancesOn 88 = .ok (.bipush (-2), 2) := by decide +kernel
theorem dX12_dancesOn_90 : decode cX12_dancesOn 90 = .ok (.goto 4, 3) := by decide +kernel
theorem dX12_dancesOn_93 : decode cX12_dancesOn 93 = .ok (.iconst (-1), 1) := by decide +kernel
theorem dX12_dancesOn_94 : decode cX12_dancesOn 94 = .ok (.ireturn, 1) := by decide +kernel
theorem dX12_dancesOn_95 : decode cX12_dancesOn 95 = .ok (.aload_n 0, 1) := by decide +kernel
theorem dX12_dancesOn_96 : decode cX12_dancesOn 96 = .ok (.invokevirtual 523, 3) := by decide +kernel
theorem dX12_dancesOn_99 : decode cX12_dancesOn 99 = .ok (.ifCond .eq 5, 3) := by decide +kernel
theorem dX12_dancesOn_102 : decode cX12_dancesOn 102 = .ok (.iload_n 3, 1) := by decide +kernel
theorem dX12_dancesOn_103 : decode cX12_dancesOn 103 = .ok (.ireturn, 1) := by decide +kernel
theorem dX12_dancesOn_104 : decode cX12_dancesOn 104 = .ok (.iinc 3 1, 3) := by decide +kernel
theorem dX12_dancesOn_107 : decode cX12_dancesOn 107 = .ok (.goto (-103), 3) := by decide +kernel
theorem dX12_dancesOn_110 : decode cX12_dancesOn 110 = .ok (.iconst (-1), 1) := by decide +kernel
theorem dX12_dancesOn_111 : decode cX12_dancesOn 111 = .ok (.ireturn, 1) := by decide +kernel
abbrev rm_f_X12_dancesOn : Room := { frames := 207, cells := 0, slots := 0, locals := 12185 }
def f_X12_dancesOn_L21 (N : Nat) (K15 : (Int → Int → St → Option (Int × St))) : Nat → Int → Int → St → Option (Int × St)
  | 0, _, _, _ => none
  | n9 + 1, x11, x13, t14 =>
    cmpI x13 1 (if x13 = 1 then (cmpI (x11 + 1) 2000 (if 2000 < (x11 + 1) then (some ((-2), t14))
    else (lt1 (t14.1 200 115) fun v16 =>
    lt1 (t14.1 200 51) fun v17 =>
    ixI (v17 - 1) 1600 (lt1 (t14.2 58 (v17 - 1).toNat) fun v18 =>
    bdI (f_X12_reckons N v16 v18 t14) fun v20 t19 =>
    cmpI v20 0 (if v20 = 0 then (some ((-1), t19))
    else (bdV (f_X12_settles N t19) fun t21 =>
    bdI (f_X12_goesToStep N t21) fun v23 t22 =>
    f_X12_dancesOn_L21 N K15 n9 (x11 + 1) v23 t22))))))
    else (K15 x11 x13 t14))
def f_X12_dancesOn_L4 (N : Nat) (K5 : (Int → St → Option (Int × St))) (K6 : (St → Option (Int × St))) (y1 : Int) : Nat → Int → Int → St → Option (Int × St)
  | 0, _, _, _ => none
  | n9 + 1, x2, x3, t4 =>
    cmpI x3 100 (if 100 < x3 then (K6 t4)
    else (bdV (f_X12_starts N y1 t4) fun t7 =>
    bdI (f_X12_goesToStep N t7) fun v9 t8 =>
    f_X12_dancesOn_L21 N (fun (k24 : Int) (k25 : Int) (t26 : St) => cmpI k25 0 (if k25 = 0 then (bdI (f_X12_isHome N t26) fun v28 t27 =>
    cmpI v28 0 (if v28 = 0 then (f_X12_dancesOn_L4 N K5 K6 y1 n9 k24 (x3 + 1) t27)
    else (some (x3, t27))))
    else (K5 k25 t26))) N x2 v9 t8))
def f_X12_dancesOn (N : Nat) (a0 : Int) (t : St) : Option (Int × St) :=
    f_X12_dancesOn_L4 N (fun (k29 : Int) (t30 : St) => cmpI k29 4 (if k29 = 4 then (some ((-2), t30))
    else (some ((-1), t30)))) (fun (t31 : St) => some ((-1), t31)) a0 N 0 1 t
set_option maxHeartbeats 4000000 in
set_option maxRecDepth 100000 in
theorem t_f_X12_dancesOn_L21 {p : Program} {l : Launch} {e : Env} {s : State} {m : MethodId} {args : Array Value} {below : List Frame} {meth : Method} {c : Code} {E : cE} {A : Nat → Prop} {r : Nat → Nat} {mc ms : Nat} {z : Int × St} {N : Nat} {K15 : (Int → Int → St → Option (Int × St))} {y10 : Int} {y12 : Int} (X : gX p s m meth c cX12_dancesOn 5 (some .int) yX12_dancesOn args E A) (hK15 : ∀ (q2 : Int) (q4 : Int) (t9 : St), K15 q2 q4 t9 = some z → gP p l e rm_f_X12_dancesOn s m args below meth c E A 5 (MQ below ((gqI E (gW E r shM) z) A) args s mc ms A) (gW E r shM) 77 [(0, .ref (r 200)), (1, iv y10), (2, iv q2), (3, iv y12), (4, iv q4)] [] t9) : ∀ (n9 : Nat) (x11 : Int) (x13 : Int) (t14 : St), f_X12_dancesOn_L21 N K15 n9 x11 x13 t14 = some z → gP p l e rm_f_X12_dancesOn s m args below meth c E A 5 (MQ below ((gqI E (gW E r shM) z) A) args s mc ms A) (gW E r shM) 21 [(0, .ref (r 200)), (1, iv y10), (2, iv x11), (3, iv y12), (4, iv x13)] [] t14 := by
  intro n9
  induction n9 with
  | zero => intro x11 x13 t14 h; cases h
  | succ n9 ih =>
    intro x11 x13 t14 h
    unfold f_X12_dancesOn_L21 at h
    refine g_iload X dX12_dancesOn_21 4 rfl ?_
    refine g_iconst X dX12_dancesOn_23 ?_
    refine g_icmp_ne (tgt := 77) X dX12_dancesOn_24 (by decide) h (fun h => ?_) (fun h => ?_)
    · exact g_sub (lv' := [(0, .ref (r 200)), (1, iv y10), (2, iv x11), (3, iv y12), (4, iv x13)]) [0, 1, 2, 3, 4] rfl (hK15 x11 x13 t14 h)
    · refine g_iinc (lv' := [(2, iv (x11 + 1)), (0, .ref (r 200)), (1, iv y10), (3, iv y12), (4, iv x13)]) X dX12_dancesOn_27 (k := 2) rfl (by decide) rfl ?_
      refine g_iload_n X dX12_dancesOn_30 0 rfl ?_
      refine g_sipush X dX12_dancesOn_31 (by decide) ?_
      refine g_icmp_le (tgt := 40) X dX12_dancesOn_34 (by decide) h (fun h => ?_) (fun h => ?_)
      · refine g_aload_n X dX12_dancesOn_40 1 rfl ?_
        refine g_aload_n X dX12_dancesOn_41 1 rfl ?_
        refine g_getI X fM_115 rfl dX12_dancesOn_42 h (fun v16 h => ?_)
        refine g_aload_n X dX12_dancesOn_45 1 rfl ?_
        refine g_getR X fM_58 rfl dX12_dancesOn_46 ?_
        refine g_aload_n X dX12_dancesOn_49 1 rfl ?_
        refine g_getI X fM_51 rfl dX12_dancesOn_50 h (fun v17 h => ?_)
        refine g_iconst X dX12_dancesOn_53 ?_
        refine g_isub X dX12_dancesOn_54 ?_
        refine g_lald X aM_58 dX12_dancesOn_55 h (fun v18 h => ?_)
        refine g_callI (rest := []) X (fun u9 h9 => cp_X12_reckons l E r N v16 v18 t14 u9 h9) yy_X12_reckons yi_X12_reckons wdM_RX12_559 0 12 (gW_at oM) rfl rfl rfl (Nat.le_of_ble_eq_true rfl) dX12_dancesOn_56 ⟨by decide, by decide⟩ ⟨rfl, rfl⟩ h (fun v20 t19 h => ?_)
        refine g_if_ne (tgt := 64) X dX12_dancesOn_59 (by decide) h (fun h => ?_) (fun h => ?_)
        · refine g_aload_n X dX12_dancesOn_64 1 rfl ?_
          refine g_callV (rest := []) X (fun u9 h9 => cp_X12_settles l E r N t19 u9 h9) yy_X12_settles yi_X12_settles wdM_RX12_566 0 12 (gW_at oM) rfl rfl rfl (Nat.le_of_ble_eq_true rfl) dX12_dancesOn_65 ⟨by decide, by decide⟩ ⟨rfl, rfl⟩ h (fun t21 h => ?_)
          refine g_aload_n X dX12_dancesOn_68 1 rfl ?_
          refine g_callI (rest := []) X (fun u9 h9 => cp_X12_goesToStep l E r N t21 u9 h9) yy_X12_goesToStep yi_X12_goesToStep wdM_RX12_620 0 12 (gW_at oM) rfl rfl rfl (Nat.le_of_ble_eq_true rfl) dX12_dancesOn_69 ⟨by decide, by decide⟩ ⟨rfl, rfl⟩ h (fun v23 t22 h => ?_)
          refine g_istore (lv' := [(4, iv v23), (2, iv (x11 + 1)), (0, .ref (r 200)), (1, iv y10), (3, iv y12)]) X dX12_dancesOn_72 (by decide) rfl ?_
          refine g_goto (tgt := 21) X dX12_dancesOn_74 (by decide) ?_
          exact g_sub (lv' := [(0, .ref (r 200)), (1, iv y10), (2, iv (x11 + 1)), (3, iv y12), (4, iv v23)]) [2, 3, 1, 4, 0] rfl (ih (x11 + 1) v23 t22 h)
        · refine g_iconst X dX12_dancesOn_62 ?_
          exact g_iret X h dX12_dancesOn_63
      · refine g_bipush X dX12_dancesOn_37 (by decide) ?_
        exact g_iret X h dX12_dancesOn_39
set_option maxHeartbeats 4000000 in
set_option maxRecDepth 100000 in
theorem t_f_X12_dancesOn_L4 {p : Program} {l : Launch} {e : Env} {s : State} {m : MethodId} {args : Array Value} {below : List Frame} {meth : Method} {c : Code} {E : cE} {A : Nat → Prop} {r : Nat → Nat} {mc ms : Nat} {z : Int × St} {N : Nat} {K5 : (Int → St → Option (Int × St))} {K6 : (St → Option (Int × St))} {y1 : Int} (X : gX p s m meth c cX12_dancesOn 5 (some .int) yX12_dancesOn args E A) (hK5 : ∀ (q4 : Int) (t9 : St), K5 q4 t9 = some z → gP p l e rm_f_X12_dancesOn s m args below meth c E A 5 (MQ below ((gqI E (gW E r shM) z) A) args s mc ms A) (gW E r shM) 82 [(4, iv q4)] [] t9) (hK6 : ∀ (t9 : St), K6 t9 = some z → gP p l e rm_f_X12_dancesOn s m args below meth c E A 5 (MQ below ((gqI E (gW E r shM) z) A) args s mc ms A) (gW E r shM) 110 [] [] t9) : ∀ (n9 : Nat) (x2 : Int) (x3 : Int) (t4 : St), f_X12_dancesOn_L4 N K5 K6 y1 n9 x2 x3 t4 = some z → gP p l e rm_f_X12_dancesOn s m args below meth c E A 5 (MQ below ((gqI E (gW E r shM) z) A) args s mc ms A) (gW E r shM) 4 [(0, .ref (r 200)), (1, iv y1), (2, iv x2), (3, iv x3)] [] t4 := by
  intro n9
  induction n9 with
  | zero => intro x2 x3 t4 h; cases h
  | succ n9 ih =>
    intro x2 x3 t4 h
    unfold f_X12_dancesOn_L4 at h
    refine g_iload_n X dX12_dancesOn_4 3 rfl ?_
    refine g_bipush X dX12_dancesOn_5 (by decide) ?_
    refine g_icmp_gt (tgt := 110) X dX12_dancesOn_7 (by decide) h (fun h => ?_) (fun h => ?_)
    · exact g_sub (lv' := []) [] rfl (hK6 t4 h)
    · refine g_aload_n X dX12_dancesOn_10 0 rfl ?_
      refine g_iload_n X dX12_dancesOn_11 1 rfl ?_
      refine g_callV (rest := []) X (fun u9 h9 => cp_X12_starts l E r N y1 t4 u9 h9) yy_X12_starts yi_X12_starts wdM_RX12_595 0 12 (gW_at oM) rfl rfl rfl (Nat.le_of_ble_eq_true rfl) dX12_dancesOn_12 ⟨by decide, by decide⟩ ⟨rfl, rfl⟩ h (fun t7 h => ?_)
      refine g_aload_n X dX12_dancesOn_15 0 rfl ?_
      refine g_callI (rest := []) X (fun u9 h9 => cp_X12_goesToStep l E r N t7 u9 h9) yy_X12_goesToStep yi_X12_goesToStep wdM_RX12_620 0 12 (gW_at oM) rfl rfl rfl (Nat.le_of_ble_eq_true rfl) dX12_dancesOn_16 ⟨by decide, by decide⟩ ⟨rfl, rfl⟩ h (fun v9 t8 h => ?_)
      refine g_istore (lv' := [(4, iv v9), (0, .ref (r 200)), (1, iv y1), (2, iv x2), (3, iv x3)]) X dX12_dancesOn_19 (by decide) rfl ?_
      refine g_sub (lv' := [(0, .ref (r 200)), (1, iv y1), (2, iv x2), (3, iv x3), (4, iv v9)]) [1, 2, 3, 4, 0] rfl (t_f_X12_dancesOn_L21 X (fun k24 k25 t26 h => ?_) N x2 v9 t8 h)
      · refine g_iload X dX12_dancesOn_77 4 rfl ?_
        refine g_if_eq (tgt := 95) X dX12_dancesOn_79 (by decide) h (fun h => ?_) (fun h => ?_)
        · refine g_aload_n X dX12_dancesOn_95 0 rfl ?_
          refine g_callI (rest := []) X (fun u9 h9 => cp_X12_isHome l E r N t26 u9 h9) yy_X12_isHome yi_X12_isHome wdM_RX12_523 0 12 (gW_at oM) rfl rfl rfl (Nat.le_of_ble_eq_true rfl) dX12_dancesOn_96 ⟨by decide, by decide⟩ ⟨rfl, rfl⟩ h (fun v28 t27 h => ?_)
          refine g_if_eq (tgt := 104) X dX12_dancesOn_99 (by decide) h (fun h => ?_) (fun h => ?_)
          · refine g_iinc (lv' := [(3, iv (x3 + 1)), (0, .ref (r 200)), (1, iv y1), (2, iv k24), (4, iv k25)]) X dX12_dancesOn_104 (k := 3) rfl (by decide) rfl ?_
            refine g_goto (tgt := 4) X dX12_dancesOn_107 (by decide) ?_
            exact g_sub (lv' := [(0, .ref (r 200)), (1, iv y1), (2, iv k24), (3, iv (x3 + 1))]) [1, 2, 3, 0] rfl (ih k24 (x3 + 1) t27 h)
          · refine g_iload_n X dX12_dancesOn_102 3 rfl ?_
            exact g_iret X h dX12_dancesOn_103
        · exact g_sub (lv' := [(4, iv k25)]) [4] rfl (hK5 k25 t26 h)
set_option maxHeartbeats 4000000 in
set_option maxRecDepth 100000 in
theorem b_f_X12_dancesOn {p : Program} {l : Launch} {e : Env} {s : State} {m : MethodId} {args : Array Value} {below : List Frame} {meth : Method} {c : Code} {E : cE} {A : Nat → Prop} {r : Nat → Nat} {mc ms : Nat} {z : Int × St} {N : Nat} {a0 : Int} {t : St} (X : gX p s m meth c cX12_dancesOn 5 (some .int) yX12_dancesOn args E A) (h : f_X12_dancesOn N a0 t = some z) : gP p l e rm_f_X12_dancesOn s m args below meth c E A 5 (MQ below ((gqI E (gW E r shM) z) A) args s mc ms A) (gW E r shM) 0 [(0, .ref (r 200)), (1, iv a0)] [] t := by
  unfold f_X12_dancesOn at h
  refine g_iconst X dX12_dancesOn_0 ?_
  refine g_istore_n (lv' := [(2, iv 0), (0, .ref (r 200)), (1, iv a0)]) X dX12_dancesOn_1 rfl (by decide) rfl ?_
  refine g_iconst X dX12_dancesOn_2 ?_
  refine g_istore_n (lv' := [(3, iv 1), (2, iv 0), (0, .ref (r 200)), (1, iv a0)]) X dX12_dancesOn_3 rfl (by decide) rfl ?_
  refine g_sub (lv' := [(0, .ref (r 200)), (1, iv a0), (2, iv 0), (3, iv 1)]) [2, 3, 1, 0] rfl (t_f_X12_dancesOn_L4 X (fun k29 t30 h => ?_) (fun t31 h => ?_) N 0 1 t h)
  · refine g_iload X dX12_dancesOn_82 0 rfl ?_
    refine g_iconst X dX12_dancesOn_84 ?_
    refine g_icmp_ne (tgt := 93) X dX12_dancesOn_85 (by decide) h (fun h => ?_) (fun h => ?_)
    · refine g_iconst X dX12_dancesOn_93 ?_
      exact g_iret X h dX12_dancesOn_94
    · refine g_bipush X dX12_dancesOn_88 (by decide) ?_
      refine g_goto (tgt := 94) X dX12_dancesOn_90 (by decide) ?_
      exact g_iret X h dX12_dancesOn_94
  · refine g_iconst X dX12_dancesOn_110 ?_
    exact g_iret X h dX12_dancesOn_111
set_option maxHeartbeats 4000000 in
set_option maxRecDepth 100000 in
theorem cp_X12_dancesOn (l : Launch) (E : cE) (r : Nat → Nat) (N : Nat) (a0 : Int) (t : St) (z : Int × St) (h : f_X12_dancesOn N a0 t = some z) : cM l E yX12_dancesOn cX12_dancesOn 5 (some .int) rm_f_X12_dancesOn [.ref (r 200), iv a0] (gW E r shM t) (gqI E (gW E r shM) z) := by
  refine g_of (w := gW E r shM) (by decide) (Nat.le_of_ble_eq_true rfl) ?_
  intro p e s m below meth c A X
  exact g_sub (lv' := [(0, .ref (r 200)), (1, iv a0)]) [0, 1] rfl (b_f_X12_dancesOn X h)
theorem yy_X12_dancesOn : cY yX12_dancesOn cX12_dancesOn 5 (some .int) 1 := ⟨wdK_X12_dancesOn, wdZ_RX12, by decide +kernel⟩
theorem yi_X12_dancesOn : cYi yX12_dancesOn := ⟨wdN_X12_dancesOn, wdS_X12_dancesOn⟩
theorem dX12_times_0 : decode cX12_times 0 = .ok (.iload_n 2, 1) := by decide +kernel
theorem dX12_times_1 : decode cX12_times 1 = .ok (.ifCond .ne 16, 3) := by decide +kernel
theorem dX12_times_4 : decode cX12_times 4 = .ok (.iload_n 3, 1) := by decide +kernel
theorem dX12_times_5 : decode cX12_times 5 = .ok (.iconst 4, 1) := by decide +kernel
theorem dX12_times_6 : decode cX12_times 6 = .ok (.if_icmp .ne 7, 3) := by decide +kernel
theorem dX12_times_9 : decode cX12_times 9 = .ok (.iconst 1, 1) := by decide +kernel
theorem dX12_times_10 : decode cX12_times 10 = .ok (.goto 31, 3) := by decide +kernel
theorem dX12_times_13 : decode cX12_times 13 = .ok (.iconst 0, 1) := by decide +kernel
theorem dX12_times_14 : decode cX12_times 14 = .ok (.goto 27, 3) := by decide +kernel
theorem dX12_times_17 : decode cX12_times 17 = .ok (.iload_n 2, 1) := by decide +kernel
theorem dX12_times_18 : decode cX12_times 18 = .ok (.iconst 1, 1) := by decide +kernel
theorem dX12_times_19 : decode cX12_times 19 = .ok (.iconst 3, 1) := by decide +kernel
theorem dX12_times_20 : decode cX12_times 20 = .ok (.invokestatic 227, 3) := by decide +kernel
theorem dX12_times_23 : decode cX12_times 23 = .ok (.ifCond .eq 17, 3) := by decide +kernel
theorem dX12_times_26 : decode cX12_times 26 = .ok (.iload_n 3, 1) := by decide +kernel
theorem dX12_times_27 : decode cX12_times 27 = .ok (.iconst 1, 1) := by decide +kernel
theorem dX12_times_28 : decode cX12_times 28 = .ok (.bipush 32, 2) := by decide +kernel
theorem dX12_times_30 : decode cX12_times 30 = .ok (.invokestatic 227, 3) := by decide +kernel
theorem dX12_times_33 : decode cX12_times 33 = .ok (.ifCond .eq 7, 3) := by decide +kernel
theorem dX12_times_36 : decode cX12_times 36 = .ok (.iconst 1, 1) := by decide +kernel
theorem dX12_times_37 : decode cX12_times 37 = .ok (.goto 4, 3) := by decide +kernel
theorem dX12_times_40 : decode cX12_times 40 = .ok (.iconst 0, 1) := by decide +kernel
theorem dX12_times_41 : decode cX12_times 41 = .ok (.istore 4, 2) := by decide +kernel
theorem dX12_times_43 : decode cX12_times 43 = .ok (.iload_n 1, 1) := by decide +kernel
theorem dX12_times_44 : decode cX12_times 44 = .ok (.iconst 0, 1) := by decide +kernel
theorem dX12_times_45 : decode cX12_times 45 = .ok (.aload_n 0, 1) := by decide +kernel
theorem dX12_times_46 : decode cX12_times 46 = .ok (.getfield 386, 3) := by decide +kernel
theorem dX12_times_49 : decode cX12_times 49 = .ok (.iconst 1, 1) := by decide +kernel
theorem dX12_times_50 : decode cX12_times 50 = .ok (.isub, 1) := by decide +kernel
theorem dX12_times_51 : decode cX12_times 51 = .ok (.invokestatic 227, 3) := by decide +kernel
theorem dX12_times_54 : decode cX12_times 54 = .ok (.ifCond .eq 8, 3) := by decide +kernel
theorem dX12_times_57 : decode cX12_times 57 = .ok (.iload 4, 2) := by decide +kernel
theorem dX12_times_59 : decode cX12_times 59 = .ok (.ifCond .ne 5, 3) := by decide +kernel
theorem dX12_times_62 : decode cX12_times 62 = .ok (.iconst (-1), 1) := by decide +kernel
theorem dX12_times_63 : decode cX12_times 63 = .ok (.ireturn, 1) := by decide +kernel
theorem dX12_times_64 : decode cX12_times 64 = .ok (.aload_n 0, 1) := by decide +kernel
theorem dX12_times_65 : decode cX12_times 65 = .ok (.invokevirtual 650, 3) := by decide +kernel
theorem dX12_times_68 : decode cX12_times 68 = .ok (.iconst 0, 1) := by decide +kernel
theorem dX12_times_69 : decode cX12_times 69 = .ok (.istore 5, 2) := by decide +kernel
theorem dX12_times_71 : decode cX12_times 71 = .ok (.iload 5, 2) := by decide +kernel
theorem dX12_times_73 : decode cX12_times 73 = .ok (.bipush 64, 2) := by decide +kernel
theorem dX12_times_75 : decode cX12_times 75 = .ok (.if_icmp .ge 58, 3) := by decide +kernel
theorem dX12_times_78 : decode cX12_times 78 = .ok (.aload_n 0, 1) := by decide +kernel
theorem dX12_times_79 : decode cX12_times 79 = .ok (.getfield 205, 3) := by decide +kernel
theorem dX12_times_82 : decode cX12_times 82 = .ok (.iload 5, 2) := by decide +kernel
theorem dX12_times_84 : decode cX12_times 84 = .ok (.aload_n 0, 1) := by decide +kernel
theorem dX12_times_85 : decode cX12_times 85 = .ok (.getfield 83, 3) := by decide +kernel
theorem dX12_times_88 : decode cX12_times 88 = .ok (.iload 5, 2) := by decide +kernel
theorem dX12_times_90 : decode cX12_times 90 = .ok (.iaload, 1) := by decide +kernel
theorem dX12_times_91 : decode cX12_times 91 = .ok (.iastore, 1) := by decide +kernel
theorem dX12_times_92 : decode cX12_times 92 = .ok (.aload_n 0, 1) := by decide +kernel
theorem dX12_times_93 : decode cX12_times 93 = .ok (.getfield 205, 3) := by decide +kernel
theorem dX12_times_96 : decode cX12_times 96 = .ok (.bipush 64, 2) := by decide +kernel
theorem dX12_times_98 : decode cX12_times 98 = .ok (.iload 5, 2) := by decide +kernel
theorem dX12_times_100 : decode cX12_times 100 = .ok (.iadd, 1) := by decide +kernel
theorem dX12_times_101 : decode cX12_times 101 = .ok (.aload_n 0, 1) := by decide +kernel
theorem dX12_times_102 : decode cX12_times 102 = .ok (.getfield 86, 3) := by decide +kernel
theorem dX12_times_105 : decode cX12_times 105 = .ok (.iload 5, 2) := by decide +kernel
theorem dX12_times_107 : decode cX12_times 107 = .ok (.iaload, 1) := by decide +kernel
theorem dX12_times_108 : decode cX12_times 108 = .ok (.iastore, 1) := by decide +kernel
theorem dX12_times_109 : decode cX12_times 109 = .ok (.aload_n 0, 1) := by decide +kernel
theorem dX12_times_110 : decode cX12_times 110 = .ok (.getfield 205, 3) := by decide +kernel
theorem dX12_times_113 : decode cX12_times 113 = .ok (.sipush 128, 3) := by decide +kernel
theorem dX12_times_116 : decode cX12_times 116 = .ok (.iload 5, 2) := by decide +kernel
theorem dX12_times_118 : decode cX12_times 118 = .ok (.iadd, 1) := by decide +kernel
theorem dX12_times_119 : decode cX12_times 119 = .ok (.aload_n 0, 1) := by decide +kernel
theorem dX12_times_120 : decode cX12_times 120 = .ok (.getfield 89, 3) := by decide +kernel
theorem dX12_times_123 : decode cX12_times 123 = .ok (.iload 5, 2) := by decide +kernel
theorem dX12_times_125 : decode cX12_times 125 = .ok (.iaload, 1) := by decide +kernel
theorem dX12_times_126 : decode cX12_times 126 = .ok (.iastore, 1) := by decide +kernel
theorem dX12_times_127 : decode cX12_times 127 = .ok (.iinc 5 1, 3) := by decide +kernel
theorem dX12_times_130 : decode cX12_times 130 = .ok (.goto (-59), 3) := by decide +kernel
theorem dX12_times_133 : decode cX12_times 133 = .ok (.iconst 0, 1) := by decide +kernel
theorem dX12_times_134 : decode cX12_times 134 = .ok (.istore 5, 2) := by decide +kernel
theorem dX12_times_136 : decode cX12_times 136 = .ok (.iload 5, 2) := by decide +kernel
theorem dX12_times_138 : decode cX12_times 138 = .ok (.sipush 1600, 3) := by decide +kernel
theorem dX12_times_141 : decode cX12_times 141 = .ok (.if_icmp .ge 65, 3) := by decide +kernel
theorem dX12_times_144 : decode cX12_times 144 = .ok (.aload_n 0, 1) := by decide +kernel
theorem dX12_times_145 : decode cX12_times 145 = .ok (.getfield 208, 3) := by decide +kernel
theorem dX12_times_148 : decode cX12_times 148 = .ok (.iload 5, 2) := by decide +kernel
theorem dX12_times_150 : decode cX12_times 150 = .ok (.aload_n 0, 1) := by decide +kernel
theorem dX12_times_151 : decode cX12_times 151 = .ok (.getfield 101, 3) := by decide +kernel
theorem dX12_times_154 : decode cX12_times 154 = .ok (.iload 5, 2) := by decide +kernel
theorem dX12_times_156 : decode cX12_times 156 = .ok (.iaload, 1) := by decide +kernel
theorem dX12_times_157 : decode cX12_times 157 = .ok (.iastore, 1) := by decide +kernel
theorem dX12_times_158 : decode cX12_times 158 = .ok (.aload_n 0, 1) := by decide +kernel
theorem dX12_times_159 : decode cX12_times 159 = .ok (.getfield 211, 3) := by decide +kernel
theorem dX12_times_162 : decode cX12_times 162 = .ok (.iload 5, 2) := by decide +kernel
theorem dX12_times_164 : decode cX12_times 164 = .ok (.aload_n 0, 1) := by decide +kernel
theorem dX12_times_165 : decode cX12_times 165 = .ok (.getfield 104, 3) := by decide +kernel
theorem dX12_times_168 : decode cX12_times 168 = .ok (.iload 5, 2) := by decide +kernel
theorem dX12_times_170 : decode cX12_times 170 = .ok (.iaload, 1) := by decide +kernel
theorem dX12_times_171 : decode cX12_times 171 = .ok (.iastore, 1) := by decide +kernel
theorem dX12_times_172 : decode cX12_times 172 = .ok (.aload_n 0, 1) := by decide +kernel
theorem dX12_times_173 : decode cX12_times 173 = .ok (.getfield 214, 3) := by decide +kernel
theorem dX12_times_176 : decode cX12_times 176 = .ok (.iload 5, 2) := by decide +kernel
theorem dX12_times_178 : decode cX12_times 178 = .ok (.aload_n 0, 1) := by decide +kernel
theorem dX12_times_179 : decode cX12_times 179 = .ok (.getfield 107, 3) := by decide +kernel
theorem dX12_times_182 : decode cX12_times 182 = .ok (.iload 5, 2) := by decide +kernel
theorem dX12_times_184 : decode cX12_times 184 = .ok (.iaload, 1) := by decide +kernel
theorem dX12_times_185 : decode cX12_times 185 = .ok (.iastore, 1) := by decide +kernel
theorem dX12_times_186 : decode cX12_times 186 = .ok (.aload_n 0, 1) := by decide +kernel
theorem dX12_times_187 : decode cX12_times 187 = .ok (.getfield 217, 3) := by decide +kernel
theorem dX12_times_190 : decode cX12_times 190 = .ok (.iload 5, 2) := by decide +kernel
theorem dX12_times_192 : decode cX12_times 192 = .ok (.aload_n 0, 1) := by decide +kernel
theorem dX12_times_193 : decode cX12_times 193 = .ok (.getfield 110, 3) := by decide +kernel
theorem dX12_times_196 : decode cX12_times 196 = .ok (.iload 5, 2) := by decide +kernel
theorem dX12_times_198 : decode cX12_times 198 = .ok (.laload, 1) := by decide +kernel
theorem dX12_times_199 : decode cX12_times 199 = .ok (.lastore, 1) := by decide +kernel
theorem dX12_times_200 : decode cX12_times 200 = .ok (.iinc 5 1, 3) := by decide +kernel
theorem dX12_times_203 : decode cX12_times 203 = .ok (.goto (-67), 3) := by decide +kernel
theorem dX12_times_206 : decode cX12_times 206 = .ok (.aload_n 0, 1) := by decide +kernel
theorem dX12_times_207 : decode cX12_times 207 = .ok (.getfield 231, 3) := by decide +kernel
theorem dX12_times_210 : decode cX12_times 210 = .ok (.istore 5, 2) := by decide +kernel
theorem dX12_times_212 : decode cX12_times 212 = .ok (.aload_n 0, 1) := by decide +kernel
theorem dX12_times_213 : decode cX12_times 213 = .ok (.getfield 252, 3) := by decide +kernel
theorem dX12_times_216 : decode cX12_times 216 = .ok (.istore 6, 2) := by decide +kernel
theorem dX12_times_218 : decode cX12_times 218 = .ok (.aload_n 0, 1) := by decide +kernel
theorem dX12_times_219 : decode cX12_times 219 = .ok (.getfield 255, 3) := by decide +kernel
theorem dX12_times_222 : decode cX12_times 222 = .ok (.istore 7, 2) := by decide +kernel
theorem dX12_times_224 : decode cX12_times 224 = .ok (.aload_n 0, 1) := by decide +kernel
theorem dX12_times_225 : decode cX12_times 225 = .ok (.getfield 245, 3) := by decide +kernel
theorem dX12_times_228 : decode cX12_times 228 = .ok (.istore 8, 2) := by decide +kernel
theorem dX12_times_230 : decode cX12_times 230 = .ok (.aload_n 0, 1) := by decide +kernel
theorem dX12_times_231 : decode cX12_times 231 = .ok (.getfield 572, 3) := by decide +kernel
theorem dX12_times_234 : decode cX12_times 234 = .ok (.istore 9, 2) := by decide +kernel
theorem dX12_times_236 : decode cX12_times 236 = .ok (.aload_n 0, 1) := by decide +kernel
theorem dX12_times_237 : decode cX12_times 237 = .ok (.iload_n 2, 1) := by decide +kernel
theorem dX12_times_238 : decode cX12_times 238 = .ok (.iload_n 3, 1) := by decide +kernel
theorem dX12_times_239 : decode cX12_times 239 = .ok (.invokevirtual 220, 3) := by decide +kernel
theorem dX12_times_242 : decode cX12_times 242 = .ok (.pop, 1) := by decide +kernel
theorem dX12_times_243 : decode cX12_times 243 = .ok (.aload_n 0, 1) := by decide +kernel
theorem dX12_times_244 : decode cX12_times 244 = .ok (.iconst 0, 1) := by decide +kernel
theorem dX12_times_245 : decode cX12_times 245 = .ok (.putfield 599, 3) := by decide +kernel
theorem dX12_times_248 : decode cX12_times 248 = .ok (.aload_n 0, 1) := by decide +kernel
theorem dX12_times_249 : decode cX12_times 249 = .ok (.iconst 1, 1) := by decide +kernel
theorem dX12_times_250 : decode cX12_times 250 = .ok (.putfield 602, 3) := by decide +kernel
theorem dX12_times_253 : decode cX12_times 253 = .ok (.aload_n 0, 1) := by decide +kernel
theorem dX12_times_254 : decode cX12_times 254 = .ok (.iload_n 1, 1) := by decide +kernel
theorem dX12_times_255 : decode cX12_times 255 = .ok (.invokevirtual 680, 3) := by decide +kernel
theorem dX12_times_258 : decode cX12_times 258 = .ok (.istore 10, 2) := by decide +kernel
theorem dX12_times_260 : decode cX12_times 260 = .ok (.aload_n 0, 1) := by decide +kernel
theorem dX12_times_261 : decode cX12_times 261 = .ok (.iconst 0, 1) := by decide +kernel
theorem dX12_times_262 : decode cX12_times 262 = .ok (.putfield 602, 3) := by decide +kernel
theorem dX12_times_265 : decode cX12_times 265 = .ok (.aload_n 0, 1) := by decide +kernel
theorem dX12_times_266 : decode cX12_times 266 = .ok (.iload 5, 2) := by decide +kernel
theorem dX12_times_268 : decode cX12_times 268 = .ok (.putfield 231, 3) := by decide +kernel
theorem dX12_times_271 : decode cX12_times 271 = .ok (.aload_n 0, 1) := by decide +kernel
theorem dX12_times_272 : decode cX12_times 272 = .ok (.iload 6, 2) := by decide +kernel
theorem dX12_times_274 : decode cX12_times 274 = .ok (.putfield 252, 3) := by decide +kernel
theorem dX12_times_277 : decode cX12_times 277 = .ok (.aload_n 0, 1) := by decide +kernel
theorem dX12_times_278 : decode cX12_times 278 = .ok (.iload 7, 2) := by decide +kernel
theorem dX12_times_280 : decode cX12_times 280 = .ok (.putfield 255, 3) := by decide +kernel
theorem dX12_times_283 : decode cX12_times 283 = .ok (.aload_n 0, 1) := by decide +kernel
theorem dX12_times_284 : decode cX12_times 284 = .ok (.iload 8, 2) := by decide +kernel
theorem dX12_times_286 : decode cX12_times 286 = .ok (.putfield 245, 3) := by decide +kernel
theorem dX12_times_289 : decode cX12_times 289 = .ok (.aload_n 0, 1) := by decide +kernel
theorem dX12_times_290 : decode cX12_times 290 = .ok (.iload 9, 2) := by decide +kernel
theorem dX12_times_292 : decode cX12_times 292 = .ok (.putfield 572, 3) := by decide +kernel
theorem dX12_times_295 : decode cX12_times 295 = .ok (.aload_n 0, 1) := by decide +kernel
theorem dX12_times_296 : decode cX12_times 296 = .ok (.invokevirtual 659, 3) := by decide +kernel
theorem dX12_times_299 : decode cX12_times 299 = .ok (.iconst 0, 1) := by decide +kernel
theorem dX12_times_300 : decode cX12_times 300 = .ok (.istore 11, 2) := by decide +kernel
theorem dX12_times_302 : decode cX12_times 302 = .ok (.iload 11, 2) := by decide +kernel
theorem dX12_times_304 : decode cX12_times 304 = .ok (.bipush 64, 2) := by decide +kernel
theorem dX12_times_306 : decode cX12_times 306 = .ok (.if_icmp .ge 58, 3) := by decide +kernel
theorem dX12_times_309 : decode cX12_times 309 = .ok (.aload_n 0, 1) := by decide +kernel
theorem dX12_times_310 : decode cX12_times 310 = .ok (.getfield 83, 3) := by decide +kernel
theorem dX12_times_313 : decode cX12_times 313 = .ok (.iload 11, 2) := by decide +kernel
theorem dX12_times_315 : decode cX12_times 315 = .ok (.aload_n 0, 1) := by decide +kernel
theorem dX12_times_316 : decode cX12_times 316 = .ok (.getfield 205, 3) := by decide +kernel
theorem dX12_times_319 : decode cX12_times 319 = .ok (.iload 11, 2) := by decide +kernel
theorem dX12_times_321 : decode cX12_times 321 = .ok (.iaload, 1) := by decide +kernel
theorem dX12_times_322 : decode cX12_times 322 = .ok (.iastore, 1) := by decide +kernel
theorem dX12_times_323 : decode cX12_times 323 = .ok (.aload_n 0, 1) := by decide +kernel
theorem dX12_times_324 : decode cX12_times 324 = .ok (.getfield 86, 3) := by decide +kernel
theorem dX12_times_327 : decode cX12_times 327 = .ok (.iload 11, 2) := by decide +kernel
theorem dX12_times_329 : decode cX12_times 329 = .ok (.aload_n 0, 1) := by decide +kernel
theorem dX12_times_330 : decode cX12_times 330 = .ok (.getfield 205, 3) := by decide +kernel
theorem dX12_times_333 : decode cX12_times 333 = .ok (.bipush 64, 2) := by decide +kernel
theorem dX12_times_335 : decode cX12_times 335 = .ok (.iload 11, 2) := by decide +kernel
theorem dX12_times_337 : decode cX12_times 337 = .ok (.iadd, 1) := by decide +kernel
theorem dX12_times_338 : decode cX12_times 338 = .ok (.iaload, 1) := by decide +kernel
theorem dX12_times_339 : decode cX12_times 339 = .ok (.iastore, 1) := by decide +kernel
theorem dX12_times_340 : decode cX12_times 340 = .ok (.aload_n 0, 1) := by decide +kernel
theorem dX12_times_341 : decode cX12_times 341 = .ok (.getfield 89, 3) := by decide +kernel
theorem dX12_times_344 : decode cX12_times 344 = .ok (.iload 11, 2) := by decide +kernel
theorem dX12_times_346 : decode cX12_times 346 = .ok (.aload_n 0, 1) := by decide +kernel
theorem dX12_times_347 : decode cX12_times 347 = .ok (.getfield 205, 3) := by decide +kernel
theorem dX12_times_350 : decode cX12_times 350 = .ok (.sipush 128, 3) := by decide +kernel
theorem dX12_times_353 : decode cX12_times 353 = .ok (.iload 11, 2) := by decide +kernel
theorem dX12_times_355 : decode cX12_times 355 = .ok (.iadd, 1) := by decide +kernel
theorem dX12_times_356 : decode cX12_times 356 = .ok (.iaload, 1) := by decide +kernel
theorem dX12_times_357 : decode cX12_times 357 = .ok (.iastore, 1) := by decide +kernel
theorem dX12_times_358 : decode cX12_times 358 = .ok (.iinc 11 1, 3) := by decide +kernel
theorem dX12_times_361 : decode cX12_times 361 = .ok (.goto (-59), 3) := by decide +kernel
theorem dX12_times_364 : decode cX12_times 364 = .ok (.iconst 0, 1) := by decide +kernel
theorem dX12_times_365 : decode cX12_times 365 = .ok (.istore 11, 2) := by decide +kernel
theorem dX12_times_367 : decode cX12_times 367 = .ok (.iload 11, 2) := by decide +kernel
theorem dX12_times_369 : decode cX12_times 369 = .ok (.sipush 1600, 3) := by decide +kernel
theorem dX12_times_372 : decode cX12_times 372 = .ok (.if_icmp .ge 65, 3) := by decide +kernel
theorem dX12_times_375 : decode cX12_times 375 = .ok (.aload_n 0, 1) := by decide +kernel
theorem dX12_times_376 : decode cX12_times 376 = .ok (.getfield 101, 3) := by decide +kernel
theorem dX12_times_379 : decode cX12_times 379 = .ok (.iload 11, 2) := by decide +kernel
theorem dX12_times_381 : decode cX12_times 381 = .ok (.aload_n 0, 1) := by decide +kernel
theorem dX12_times_382 : decode cX12_times 382 = .ok (.getfield 208, 3) := by decide +kernel
theorem dX12_times_385 : decode cX12_times 385 = .ok (.iload 11, 2) := by decide +kernel
theorem dX12_times_387 : decode cX12_times 387 = .ok (.iaload, 1) := by decide +kernel
theorem dX12_times_388 : decode cX12_times 388 = .ok (.iastore, 1) := by decide +kernel
theorem dX12_times_389 : decode cX12_times 389 = .ok (.aload_n 0, 1) := by decide +kernel
theorem dX12_times_390 : decode cX12_times 390 = .ok (.getfield 104, 3) := by decide +kernel
theorem dX12_times_393 : decode cX12_times 393 = .ok (.iload 11, 2) := by decide +kernel
theorem dX12_times_395 : decode cX12_times 395 = .ok (.aload_n 0, 1) := by decide +kernel
theorem dX12_times_396 : decode cX12_times 396 = .ok (.getfield 211, 3) := by decide +kernel
theorem dX12_times_399 : decode cX12_times 399 = .ok (.iload 11, 2) := by decide +kernel
theorem dX12_times_401 : decode cX12_times 401 = .ok (.iaload, 1) := by decide +kernel
theorem dX12_times_402 : decode cX12_times 402 = .ok (.iastore, 1) := by decide +kernel
theorem dX12_times_403 : decode cX12_times 403 = .ok (.aload_n 0, 1) := by decide +kernel
theorem dX12_times_404 : decode cX12_times 404 = .ok (.getfield 107, 3) := by decide +kernel
theorem dX12_times_407 : decode cX12_times 407 = .ok (.iload 11, 2) := by decide +kernel
theorem dX12_times_409 : decode cX12_times 409 = .ok (.aload_n 0, 1) := by decide +kernel
theorem dX12_times_410 : decode cX12_times 410 = .ok (.getfield 214, 3) := by decide +kernel
theorem dX12_times_413 : decode cX12_times 413 = .ok (.iload 11, 2) := by decide +kernel
theorem dX12_times_415 : decode cX12_times 415 = .ok (.iaload, 1) := by decide +kernel
theorem dX12_times_416 : decode cX12_times 416 = .ok (.iastore, 1) := by decide +kernel
theorem dX12_times_417 : decode cX12_times 417 = .ok (.aload_n 0, 1) := by decide +kernel
theorem dX12_times_418 : decode cX12_times 418 = .ok (.getfield 110, 3) := by decide +kernel
theorem dX12_times_421 : decode cX12_times 421 = .ok (.iload 11, 2) := by decide +kernel
theorem dX12_times_423 : decode cX12_times 423 = .ok (.aload_n 0, 1) := by decide +kernel
theorem dX12_times_424 : decode cX12_times 424 = .ok (.getfield 217, 3) := by decide +kernel
theorem dX12_times_427 : decode cX12_times 427 = .ok (.iload 11, 2) := by decide +kernel
theorem dX12_times_429 : decode cX12_times 429 = .ok (.laload, 1) := by decide +kernel
theorem dX12_times_430 : decode cX12_times 430 = .ok (.lastore, 1) := by decide +kernel
theorem dX12_times_431 : decode cX12_times 431 = .ok (.iinc 11 1, 3) := by decide +kernel
theorem dX12_times_434 : decode cX12_times 434 = .ok (.goto (-67), 3) := by decide +kernel
theorem dX12_times_437 : decode cX12_times 437 = .ok (.iload 10, 2) := by decide +kernel
theorem dX12_times_439 : decode cX12_times 439 = .ok (.ireturn, 1) := by decide +kernel
abbrev rm_f_X12_times : Room := { frames := 208, cells := 0, slots := 0, locals := 12209 }
def f_X12_times_L71 (K13 : (St → Option (Int × St))) : Nat → Int → St → Option (Int × St)
  | 0, _, _ => none
  | n9 + 1, x11, t12 =>
    cmpI x11 64 (if x11 < 64 then (ixI x11 64 (lt1 (t12.1 44 x11.toNat) fun v14 =>
    ixI x11 192 (lt1 (pI t12 105 x11.toNat v14) fun t15 =>
    ixI x11 64 (lt1 (t15.1 45 x11.toNat) fun v16 =>
    ixI (64 + x11) 192 (lt1 (pI t15 105 (64 + x11).toNat v16) fun t17 =>
    ixI x11 64 (lt1 (t17.1 46 x11.toNat) fun v18 =>
    ixI (128 + x11) 192 (lt1 (pI t17 105 (128 + x11).toNat v18) fun t19 =>
    f_X12_times_L71 K13 n9 (x11 + 1) t19)))))))
    else (K13 t12))
def f_X12_times_L136 (K26 : (St → Option (Int × St))) : Nat → Int → St → Option (Int × St)
  | 0, _, _ => none
  | n9 + 1, x24, t25 =>
    cmpI x24 1600 (if x24 < 1600 then (ixI x24 1600 (lt1 (t25.1 55 x24.toNat) fun v27 =>
    ixI x24 1600 (lt1 (pI t25 106 x24.toNat v27) fun t28 =>
    ixI x24 1600 (lt1 (t28.1 56 x24.toNat) fun v29 =>
    ixI x24 1600 (lt1 (pI t28 107 x24.toNat v29) fun t30 =>
    ixI x24 1600 (lt1 (t30.1 57 x24.toNat) fun v31 =>
    ixI x24 1600 (lt1 (pI t30 108 x24.toNat v31) fun t32 =>
    ixI x24 1600 (lt1 (t32.2 58 x24.toNat) fun v33 =>
    ixI x24 1600 (lt1 (pL t32 109 x24.toNat v33) fun t34 =>
    f_X12_times_L136 K26 n9 (x24 + 1) t34)))))))))
    else (K26 t25))
def f_X12_times_L302 (K57 : (St → Option (Int × St))) : Nat → Int → St → Option (Int × St)
  | 0, _, _ => none
  | n9 + 1, x55, t56 =>
    cmpI x55 64 (if x55 < 64 then (ixI x55 192 (lt1 (t56.1 105 x55.toNat) fun v58 =>
    ixI x55 64 (lt1 (pI t56 44 x55.toNat v58) fun t59 =>
    ixI (64 + x55) 192 (lt1 (t59.1 105 (64 + x55).toNat) fun v60 =>
    ixI x55 64 (lt1 (pI t59 45 x55.toNat v60) fun t61 =>
    ixI (128 + x55) 192 (lt1 (t61.1 105 (128 + x55).toNat) fun v62 =>
    ixI x55 64 (lt1 (pI t61 46 x55.toNat v62) fun t63 =>
    f_X12_times_L302 K57 n9 (x55 + 1) t63)))))))
    else (K57 t56))
def f_X12_times_L367 (K68 : (St → Option (Int × St))) : Nat → Int → St → Option (Int × St)
  | 0, _, _ => none
  | n9 + 1, x66, t67 =>
    cmpI x66 1600 (if x66 < 1600 then (ixI x66 1600 (lt1 (t67.1 106 x66.toNat) fun v69 =>
    ixI x66 1600 (lt1 (pI t67 55 x66.toNat v69) fun t70 =>
    ixI x66 1600 (lt1 (t70.1 107 x66.toNat) fun v71 =>
    ixI x66 1600 (lt1 (pI t70 56 x66.toNat v71) fun t72 =>
    ixI x66 1600 (lt1 (t72.1 108 x66.toNat) fun v73 =>
    ixI x66 1600 (lt1 (pI t72 57 x66.toNat v73) fun t74 =>
    ixI x66 1600 (lt1 (t74.2 109 x66.toNat) fun v75 =>
    ixI x66 1600 (lt1 (pL t74 58 x66.toNat v75) fun t76 =>
    f_X12_times_L367 K68 n9 (x66 + 1) t76)))))))))
    else (K68 t67))
def f_X12_times (N : Nat) (a0 : Int) (a1 : Int) (a2 : Int) (t : St) : Option (Int × St) :=
    jn1 (fun (j1 : Int) (t2 : St) => lt1 (t2.1 200 16) fun v4 =>
    bdI (f_X12_in N a0 0 (v4 - 1) t2) fun v6 t5 =>
    cmpI v6 0 (if v6 = 0 then (some ((-1), t5))
    else (cmpI j1 0 (if j1 = 0 then (some ((-1), t5))
    else (bdV (f_X12_savesFloor N t5) fun t7 =>
    f_X12_times_L71 (fun (t20 : St) => f_X12_times_L136 (fun (t35 : St) => lt1 (t35.1 200 37) fun v36 =>
    lt1 (t35.1 200 42) fun v37 =>
    lt1 (t35.1 200 43) fun v38 =>
    lt1 (t35.1 200 51) fun v39 =>
    lt1 (t35.1 200 52) fun v40 =>
    bdI (f_X12_begins N a1 a2 t35) fun v42 t41 =>
    lt1 (pI t41 200 53 0) fun t43 =>
    boI 1 (lt1 (pI t43 200 54 1) fun t44 =>
    bdI (f_X12_dancesOn N a0 t44) fun v46 t45 =>
    boI 0 (lt1 (pI t45 200 54 0) fun t47 =>
    lt1 (pI t47 200 37 v36) fun t48 =>
    lt1 (pI t48 200 42 v37) fun t49 =>
    lt1 (pI t49 200 43 v38) fun t50 =>
    lt1 (pI t50 200 51 v39) fun t51 =>
    lt1 (pI t51 200 52 v40) fun t52 =>
    bdV (f_X12_givesFloor N t52) fun t53 =>
    f_X12_times_L302 (fun (t64 : St) => f_X12_times_L367 (fun (t77 : St) => some (v46, t77)) N 0 t64) N 0 t53))) N 0 t20) N 0 t7))))) fun J3 =>
    cmpI a1 0 (if a1 = 0 then (cmpI a2 4 (if a2 = 4 then (J3 1 t)
    else (J3 0 t)))
    else (bdI (f_X12_in N a1 1 3 t) fun v79 t78 =>
    jn1 (fun (t80 : St) => J3 0 t80) fun J81 =>
    cmpI v79 0 (if v79 = 0 then (J81 t78)
    else (bdI (f_X12_in N a2 1 32 t78) fun v83 t82 =>
    cmpI v83 0 (if v83 = 0 then (J81 t82)
    else (J3 1 t82))))))
set_option maxHeartbeats 4000000 in
set_option maxRecDepth 100000 in
theorem t_f_X12_times_L71 {p : Program} {l : Launch} {e : Env} {s : State} {m : MethodId} {args : Array Value} {below : List Frame} {meth : Method} {c : Code} {E : cE} {A : Nat → Prop} {r : Nat → Nat} {mc ms : Nat} {z : Int × St} {K13 : (St → Option (Int × St))} {y8 : Int} {y9 : Int} {y10 : Int} (X : gX p s m meth c cX12_times 12 (some .int) yX12_times args E A) (hK13 : ∀ (t9 : St), K13 t9 = some z → gP p l e rm_f_X12_times s m args below meth c E A 12 (MQ below ((gqI E (gW E r shM) z) A) args s mc ms A) (gW E r shM) 133 [(0, .ref (r 200)), (1, iv y8), (2, iv y9), (3, iv y10)] [] t9) : ∀ (n9 : Nat) (x11 : Int) (t12 : St), f_X12_times_L71 K13 n9 x11 t12 = some z → gP p l e rm_f_X12_times s m args below meth c E A 12 (MQ below ((gqI E (gW E r shM) z) A) args s mc ms A) (gW E r shM) 71 [(0, .ref (r 200)), (1, iv y8), (2, iv y9), (3, iv y10), (5, iv x11)] [] t12 := by
  intro n9
  induction n9 with
  | zero => intro x11 t12 h; cases h
  | succ n9 ih =>
    intro x11 t12 h
    unfold f_X12_times_L71 at h
    refine g_iload X dX12_times_71 4 rfl ?_
    refine g_bipush X dX12_times_73 (by decide) ?_
    refine g_icmp_ge (tgt := 133) X dX12_times_75 (by decide) h (fun h => ?_) (fun h => ?_)
    · exact g_sub (lv' := [(0, .ref (r 200)), (1, iv y8), (2, iv y9), (3, iv y10)]) [0, 1, 2, 3] rfl (hK13 t12 h)
    · refine g_aload_n X dX12_times_78 0 rfl ?_
      refine g_getR X fM_105 rfl dX12_times_79 ?_
      refine g_iload X dX12_times_82 4 rfl ?_
      refine g_aload_n X dX12_times_84 0 rfl ?_
      refine g_getR X fM_44 rfl dX12_times_85 ?_
      refine g_iload X dX12_times_88 4 rfl ?_
      refine g_iald X aM_44 dX12_times_90 h (fun v14 h => ?_)
      refine g_iast X aM_105 dX12_times_91 h (fun t15 h => ?_)
      refine g_aload_n X dX12_times_92 0 rfl ?_
      refine g_getR X fM_105 rfl dX12_times_93 ?_
      refine g_bipush X dX12_times_96 (by decide) ?_
      refine g_iload X dX12_times_98 4 rfl ?_
      refine g_iadd X dX12_times_100 ?_
      refine g_aload_n X dX12_times_101 0 rfl ?_
      refine g_getR X fM_45 rfl dX12_times_102 ?_
      refine g_iload X dX12_times_105 4 rfl ?_
      refine g_iald X aM_45 dX12_times_107 h (fun v16 h => ?_)
      refine g_iast X aM_105 dX12_times_108 h (fun t17 h => ?_)
      refine g_aload_n X dX12_times_109 0 rfl ?_
      refine g_getR X fM_105 rfl dX12_times_110 ?_
      refine g_sipush X dX12_times_113 (by decide) ?_
      refine g_iload X dX12_times_116 4 rfl ?_
      refine g_iadd X dX12_times_118 ?_
      refine g_aload_n X dX12_times_119 0 rfl ?_
      refine g_getR X fM_46 rfl dX12_times_120 ?_
      refine g_iload X dX12_times_123 4 rfl ?_
      refine g_iald X aM_46 dX12_times_125 h (fun v18 h => ?_)
      refine g_iast X aM_105 dX12_times_126 h (fun t19 h => ?_)
      refine g_iinc (lv' := [(5, iv (x11 + 1)), (0, .ref (r 200)), (1, iv y8), (2, iv y9), (3, iv y10)]) X dX12_times_127 (k := 4) rfl (by decide) rfl ?_
      refine g_goto (tgt := 71) X dX12_times_130 (by decide) ?_
      exact g_sub (lv' := [(0, .ref (r 200)), (1, iv y8), (2, iv y9), (3, iv y10), (5, iv (x11 + 1))]) [1, 2, 3, 4, 0] rfl (ih (x11 + 1) t19 h)
set_option maxHeartbeats 4000000 in
set_option maxRecDepth 100000 in
theorem t_f_X12_times_L136 {p : Program} {l : Launch} {e : Env} {s : State} {m : MethodId} {args : Array Value} {below : List Frame} {meth : Method} {c : Code} {E : cE} {A : Nat → Prop} {r : Nat → Nat} {mc ms : Nat} {z : Int × St} {K26 : (St → Option (Int × St))} {y21 : Int} {y22 : Int} {y23 : Int} (X : gX p s m meth c cX12_times 12 (some .int) yX12_times args E A) (hK26 : ∀ (t9 : St), K26 t9 = some z → gP p l e rm_f_X12_times s m args below meth c E A 12 (MQ below ((gqI E (gW E r shM) z) A) args s mc ms A) (gW E r shM) 206 [(0, .ref (r 200)), (1, iv y21), (2, iv y22), (3, iv y23)] [] t9) : ∀ (n9 : Nat) (x24 : Int) (t25 : St), f_X12_times_L136 K26 n9 x24 t25 = some z → gP p l e rm_f_X12_times s m args below meth c E A 12 (MQ below ((gqI E (gW E r shM) z) A) args s mc ms A) (gW E r shM) 136 [(0, .ref (r 200)), (1, iv y21), (2, iv y22), (3, iv y23), (5, iv x24)] [] t25 := by
  intro n9
  induction n9 with
  | zero => intro x24 t25 h; cases h
  | succ n9 ih =>
    intro x24 t25 h
    unfold f_X12_times_L136 at h
    refine g_iload X dX12_times_136 4 rfl ?_
    refine g_sipush X dX12_times_138 (by decide) ?_
    refine g_icmp_ge (tgt := 206) X dX12_times_141 (by decide) h (fun h => ?_) (fun h => ?_)
    · exact g_sub (lv' := [(0, .ref (r 200)), (1, iv y21), (2, iv y22), (3, iv y23)]) [0, 1, 2, 3] rfl (hK26 t25 h)
    · refine g_aload_n X dX12_times_144 0 rfl ?_
      refine g_getR X fM_106 rfl dX12_times_145 ?_
      refine g_iload X dX12_times_148 4 rfl ?_
      refine g_aload_n X dX12_times_150 0 rfl ?_
      refine g_getR X fM_55 rfl dX12_times_151 ?_
      refine g_iload X dX12_times_154 4 rfl ?_
      refine g_iald X aM_55 dX12_times_156 h (fun v27 h => ?_)
      refine g_iast X aM_106 dX12_times_157 h (fun t28 h => ?_)
      refine g_aload_n X dX12_times_158 0 rfl ?_
      refine g_getR X fM_107 rfl dX12_times_159 ?_
      refine g_iload X dX12_times_162 4 rfl ?_
      refine g_aload_n X dX12_times_164 0 rfl ?_
      refine g_getR X fM_56 rfl dX12_times_165 ?_
      refine g_iload X dX12_times_168 4 rfl ?_
      refine g_iald X aM_56 dX12_times_170 h (fun v29 h => ?_)
      refine g_iast X aM_107 dX12_times_171 h (fun t30 h => ?_)
      refine g_aload_n X dX12_times_172 0 rfl ?_
      refine g_getR X fM_108 rfl dX12_times_173 ?_
      refine g_iload X dX12_times_176 4 rfl ?_
      refine g_aload_n X dX12_times_178 0 rfl ?_
      refine g_getR X fM_57 rfl dX12_times_179 ?_
      refine g_iload X dX12_times_182 4 rfl ?_
      refine g_iald X aM_57 dX12_times_184 h (fun v31 h => ?_)
      refine g_iast X aM_108 dX12_times_185 h (fun t32 h => ?_)
      refine g_aload_n X dX12_times_186 0 rfl ?_
      refine g_getR X fM_109 rfl dX12_times_187 ?_
      refine g_iload X dX12_times_190 4 rfl ?_
      refine g_aload_n X dX12_times_192 0 rfl ?_
      refine g_getR X fM_58 rfl dX12_times_193 ?_
      refine g_iload X dX12_times_196 4 rfl ?_
      refine g_lald X aM_58 dX12_times_198 h (fun v33 h => ?_)
      refine g_last X aM_109 dX12_times_199 h (fun t34 h => ?_)
      refine g_iinc (lv' := [(5, iv (x24 + 1)), (0, .ref (r 200)), (1, iv y21), (2, iv y22), (3, iv y23)]) X dX12_times_200 (k := 4) rfl (by decide) rfl ?_
      refine g_goto (tgt := 136) X dX12_times_203 (by decide) ?_
      exact g_sub (lv' := [(0, .ref (r 200)), (1, iv y21), (2, iv y22), (3, iv y23), (5, iv (x24 + 1))]) [1, 2, 3, 4, 0] rfl (ih (x24 + 1) t34 h)
set_option maxHeartbeats 4000000 in
set_option maxRecDepth 100000 in
theorem t_f_X12_times_L302 {p : Program} {l : Launch} {e : Env} {s : State} {m : MethodId} {args : Array Value} {below : List Frame} {meth : Method} {c : Code} {E : cE} {A : Nat → Prop} {r : Nat → Nat} {mc ms : Nat} {z : Int × St} {K57 : (St → Option (Int × St))} {y54 : Int} (X : gX p s m meth c cX12_times 12 (some .int) yX12_times args E A) (hK57 : ∀ (t9 : St), K57 t9 = some z → gP p l e rm_f_X12_times s m args below meth c E A 12 (MQ below ((gqI E (gW E r shM) z) A) args s mc ms A) (gW E r shM) 364 [(0, .ref (r 200)), (10, iv y54)] [] t9) : ∀ (n9 : Nat) (x55 : Int) (t56 : St), f_X12_times_L302 K57 n9 x55 t56 = some z → gP p l e rm_f_X12_times s m args below meth c E A 12 (MQ below ((gqI E (gW E r shM) z) A) args s mc ms A) (gW E r shM) 302 [(0, .ref (r 200)), (10, iv y54), (11, iv x55)] [] t56 := by
  intro n9
  induction n9 with
  | zero => intro x55 t56 h; cases h
  | succ n9 ih =>
    intro x55 t56 h
    unfold f_X12_times_L302 at h
    refine g_iload X dX12_times_302 2 rfl ?_
    refine g_bipush X dX12_times_304 (by decide) ?_
    refine g_icmp_ge (tgt := 364) X dX12_times_306 (by decide) h (fun h => ?_) (fun h => ?_)
    · exact g_sub (lv' := [(0, .ref (r 200)), (10, iv y54)]) [0, 1] rfl (hK57 t56 h)
    · refine g_aload_n X dX12_times_309 0 rfl ?_
      refine g_getR X fM_44 rfl dX12_times_310 ?_
      refine g_iload X dX12_times_313 2 rfl ?_
      refine g_aload_n X dX12_times_315 0 rfl ?_
      refine g_getR X fM_105 rfl dX12_times_316 ?_
      refine g_iload X dX12_times_319 2 rfl ?_
      refine g_iald X aM_105 dX12_times_321 h (fun v58 h => ?_)
      refine g_iast X aM_44 dX12_times_322 h (fun t59 h => ?_)
      refine g_aload_n X dX12_times_323 0 rfl ?_
      refine g_getR X fM_45 rfl dX12_times_324 ?_
      refine g_iload X dX12_times_327 2 rfl ?_
      refine g_aload_n X dX12_times_329 0 rfl ?_
      refine g_getR X fM_105 rfl dX12_times_330 ?_
      refine g_bipush X dX12_times_333 (by decide) ?_
      refine g_iload X dX12_times_335 2 rfl ?_
      refine g_iadd X dX12_times_337 ?_
      refine g_iald X aM_105 dX12_times_338 h (fun v60 h => ?_)
      refine g_iast X aM_45 dX12_times_339 h (fun t61 h => ?_)
      refine g_aload_n X dX12_times_340 0 rfl ?_
      refine g_getR X fM_46 rfl dX12_times_341 ?_
      refine g_iload X dX12_times_344 2 rfl ?_
      refine g_aload_n X dX12_times_346 0 rfl ?_
      refine g_getR X fM_105 rfl dX12_times_347 ?_
      refine g_sipush X dX12_times_350 (by decide) ?_
      refine g_iload X dX12_times_353 2 rfl ?_
      refine g_iadd X dX12_times_355 ?_
      refine g_iald X aM_105 dX12_times_356 h (fun v62 h => ?_)
      refine g_iast X aM_46 dX12_times_357 h (fun t63 h => ?_)
      refine g_iinc (lv' := [(11, iv (x55 + 1)), (0, .ref (r 200)), (10, iv y54)]) X dX12_times_358 (k := 2) rfl (by decide) rfl ?_
      refine g_goto (tgt := 302) X dX12_times_361 (by decide) ?_
      exact g_sub (lv' := [(0, .ref (r 200)), (10, iv y54), (11, iv (x55 + 1))]) [1, 2, 0] rfl (ih (x55 + 1) t63 h)
set_option maxHeartbeats 4000000 in
set_option maxRecDepth 100000 in
theorem t_f_X12_times_L367 {p : Program} {l : Launch} {e : Env} {s : State} {m : MethodId} {args : Array Value} {below : List Frame} {meth : Method} {c : Code} {E : cE} {A : Nat → Prop} {r : Nat → Nat} {mc ms : Nat} {z : Int × St} {K68 : (St → Option (Int × St))} {y65 : Int} (X : gX p s m meth c cX12_times 12 (some .int) yX12_times args E A) (hK68 : ∀ (t9 : St), K68 t9 = some z → gP p l e rm_f_X12_times s m args below meth c E A 12 (MQ below ((gqI E (gW E r shM) z) A) args s mc ms A) (gW E r shM) 437 [(10, iv y65)] [] t9) : ∀ (n9 : Nat) (x66 : Int) (t67 : St), f_X12_times_L367 K68 n9 x66 t67 = some z → gP p l e rm_f_X12_times s m args below meth c E A 12 (MQ below ((gqI E (gW E r shM) z) A) args s mc ms A) (gW E r shM) 367 [(0, .ref (r 200)), (10, iv y65), (11, iv x66)] [] t67 := by
  intro n9
  induction n9 with
  | zero => intro x66 t67 h; cases h
  | succ n9 ih =>
    intro x66 t67 h
    unfold f_X12_times_L367 at h
    refine g_iload X dX12_times_367 2 rfl ?_
    refine g_sipush X dX12_times_369 (by decide) ?_
    refine g_icmp_ge (tgt := 437) X dX12_times_372 (by decide) h (fun h => ?_) (fun h => ?_)
    · exact g_sub (lv' := [(10, iv y65)]) [1] rfl (hK68 t67 h)
    · refine g_aload_n X dX12_times_375 0 rfl ?_
      refine g_getR X fM_55 rfl dX12_times_376 ?_
      refine g_iload X dX12_times_379 2 rfl ?_
      refine g_aload_n X dX12_times_381 0 rfl ?_
      refine g_getR X fM_106 rfl dX12_times_382 ?_
      refine g_iload X dX12_times_385 2 rfl ?_
      refine g_iald X aM_106 dX12_times_387 h (fun v69 h => ?_)
      refine g_iast X aM_55 dX12_times_388 h (fun t70 h => ?_)
      refine g_aload_n X dX12_times_389 0 rfl ?_
      refine g_getR X fM_56 rfl dX12_times_390 ?_
      refine g_iload X dX12_times_393 2 rfl ?_
      refine g_aload_n X dX12_times_395 0 rfl ?_
      refine g_getR X fM_107 rfl dX12_times_396 ?_
      refine g_iload X dX12_times_399 2 rfl ?_
      refine g_iald X aM_107 dX12_times_401 h (fun v71 h => ?_)
      refine g_iast X aM_56 dX12_times_402 h (fun t72 h => ?_)
      refine g_aload_n X dX12_times_403 0 rfl ?_
      refine g_getR X fM_57 rfl dX12_times_404 ?_
      refine g_iload X dX12_times_407 2 rfl ?_
      refine g_aload_n X dX12_times_409 0 rfl ?_
      refine g_getR X fM_108 rfl dX12_times_410 ?_
      refine g_iload X dX12_times_413 2 rfl ?_
      refine g_iald X aM_108 dX12_times_415 h (fun v73 h => ?_)
      refine g_iast X aM_57 dX12_times_416 h (fun t74 h => ?_)
      refine g_aload_n X dX12_times_417 0 rfl ?_
      refine g_getR X fM_58 rfl dX12_times_418 ?_
      refine g_iload X dX12_times_421 2 rfl ?_
      refine g_aload_n X dX12_times_423 0 rfl ?_
      refine g_getR X fM_109 rfl dX12_times_424 ?_
      refine g_iload X dX12_times_427 2 rfl ?_
      refine g_lald X aM_109 dX12_times_429 h (fun v75 h => ?_)
      refine g_last X aM_58 dX12_times_430 h (fun t76 h => ?_)
      refine g_iinc (lv' := [(11, iv (x66 + 1)), (0, .ref (r 200)), (10, iv y65)]) X dX12_times_431 (k := 2) rfl (by decide) rfl ?_
      refine g_goto (tgt := 367) X dX12_times_434 (by decide) ?_
      exact g_sub (lv' := [(0, .ref (r 200)), (10, iv y65), (11, iv (x66 + 1))]) [1, 2, 0] rfl (ih (x66 + 1) t76 h)
set_option maxHeartbeats 4000000 in
set_option maxRecDepth 100000 in
theorem b_f_X12_times {p : Program} {l : Launch} {e : Env} {s : State} {m : MethodId} {args : Array Value} {below : List Frame} {meth : Method} {c : Code} {E : cE} {A : Nat → Prop} {r : Nat → Nat} {mc ms : Nat} {z : Int × St} {N : Nat} {a0 : Int} {a1 : Int} {a2 : Int} {t : St} (X : gX p s m meth c cX12_times 12 (some .int) yX12_times args E A) (h : f_X12_times N a0 a1 a2 t = some z) : gP p l e rm_f_X12_times s m args below meth c E A 12 (MQ below ((gqI E (gW E r shM) z) A) args s mc ms A) (gW E r shM) 0 [(0, .ref (r 200)), (1, iv a0), (2, iv a1), (3, iv a2)] [] t := by
  unfold f_X12_times at h
  refine g_iload_n X dX12_times_0 2 rfl ?_
  refine g_join (J := fun jj => ∀ (j1 : Int) (t2 : St), jj j1 t2 = some z → gP p l e rm_f_X12_times s m args below meth c E A 12 (MQ below ((gqI E (gW E r shM) z) A) args s mc ms A) (gW E r shM) 41 [(0, .ref (r 200)), (1, iv a0), (2, iv a1), (3, iv a2)] [iv j1] t2) h (fun j1 t2 h => ?_) (fun J3 hJ3 h => ?_)
  · refine g_istore (lv' := [(4, iv j1), (0, .ref (r 200)), (1, iv a0), (2, iv a1), (3, iv a2)]) X dX12_times_41 (by decide) rfl ?_
    refine g_iload_n X dX12_times_43 2 rfl ?_
    refine g_iconst X dX12_times_44 ?_
    refine g_aload_n X dX12_times_45 1 rfl ?_
    refine g_getI X fM_16 rfl dX12_times_46 h (fun v4 h => ?_)
    refine g_iconst X dX12_times_49 ?_
    refine g_isub X dX12_times_50 ?_
    refine g_callsI (rest := []) X (fun u9 h9 => cp_X12_in l E r N a0 0 (v4 - 1) t2 u9 h9) yy_X12_in wdT_X12_in wdM_RX12_227 rfl rfl (Nat.le_of_ble_eq_true rfl) dX12_times_51 ⟨by decide, by decide⟩ ⟨rfl, rfl⟩ h (fun v6 t5 h => ?_)
    refine g_if_eq (tgt := 62) X dX12_times_54 (by decide) h (fun h => ?_) (fun h => ?_)
    · refine g_iconst X dX12_times_62 ?_
      exact g_iret X h dX12_times_63
    · refine g_iload X dX12_times_57 0 rfl ?_
      refine g_if_ne (tgt := 64) X dX12_times_59 (by decide) h (fun h => ?_) (fun h => ?_)
      · refine g_aload_n X dX12_times_64 1 rfl ?_
        refine g_callV (rest := []) X (fun u9 h9 => cp_X12_savesFloor l E r N t5 u9 h9) yy_X12_savesFloor yi_X12_savesFloor wdM_RX12_650 0 12 (gW_at oM) rfl rfl rfl (Nat.le_of_ble_eq_true rfl) dX12_times_65 ⟨by decide, by decide⟩ ⟨rfl, rfl⟩ h (fun t7 h => ?_)
        refine g_iconst X dX12_times_68 ?_
        refine g_istore (lv' := [(5, iv 0), (4, iv j1), (0, .ref (r 200)), (1, iv a0), (2, iv a1), (3, iv a2)]) X dX12_times_69 (by decide) rfl ?_
        refine g_sub (lv' := [(0, .ref (r 200)), (1, iv a0), (2, iv a1), (3, iv a2), (5, iv 0)]) [2, 3, 4, 5, 0] rfl (t_f_X12_times_L71 X (fun t20 h => ?_) N 0 t7 h)
        · refine g_iconst X dX12_times_133 ?_
          refine g_istore (lv' := [(5, iv 0), (0, .ref (r 200)), (1, iv a0), (2, iv a1), (3, iv a2)]) X dX12_times_134 (by decide) rfl ?_
          refine g_sub (lv' := [(0, .ref (r 200)), (1, iv a0), (2, iv a1), (3, iv a2), (5, iv 0)]) [1, 2, 3, 4, 0] rfl (t_f_X12_times_L136 X (fun t35 h => ?_) N 0 t20 h)
          · refine g_aload_n X dX12_times_206 0 rfl ?_
            refine g_getI X fM_37 rfl dX12_times_207 h (fun v36 h => ?_)
            refine g_istore (lv' := [(5, iv v36), (0, .ref (r 200)), (1, iv a0), (2, iv a1), (3, iv a2)]) X dX12_times_210 (by decide) rfl ?_
            refine g_aload_n X dX12_times_212 1 rfl ?_
            refine g_getI X fM_42 rfl dX12_times_213 h (fun v37 h => ?_)
            refine g_istore (lv' := [(6, iv v37), (5, iv v36), (0, .ref (r 200)), (1, iv a0), (2, iv a1), (3, iv a2)]) X dX12_times_216 (by decide) rfl ?_
            refine g_aload_n X dX12_times_218 2 rfl ?_
            refine g_getI X fM_43 rfl dX12_times_219 h (fun v38 h => ?_)
            refine g_istore (lv' := [(7, iv v38), (6, iv v37), (5, iv v36), (0, .ref (r 200)), (1, iv a0), (2, iv a1), (3, iv a2)]) X dX12_times_222 (by decide) rfl ?_
            refine g_aload_n X dX12_times_224 3 rfl ?_
            refine g_getI X fM_51 rfl dX12_times_225 h (fun v39 h => ?_)
            refine g_istore (lv' := [(8, iv v39), (7, iv v38), (6, iv v37), (5, iv v36), (0, .ref (r 200)), (1, iv a0), (2, iv a1), (3, iv a2)]) X dX12_times_228 (by decide) rfl ?_
            refine g_aload_n X dX12_times_230 4 rfl ?_
            refine g_getI X fM_52 rfl dX12_times_231 h (fun v40 h => ?_)
            refine g_istore (lv' := [(9, iv v40), (8, iv v39), (7, iv v38), (6, iv v37), (5, iv v36), (0, .ref (r 200)), (1, iv a0), (2, iv a1), (3, iv a2)]) X dX12_times_234 (by decide) rfl ?_
            refine g_aload_n X dX12_times_236 5 rfl ?_
            refine g_iload_n X dX12_times_237 7 rfl ?_
            refine g_iload_n X dX12_times_238 8 rfl ?_
            refine g_callI (rest := []) X (fun u9 h9 => cp_X12_begins l E r N a1 a2 t35 u9 h9) yy_X12_begins yi_X12_begins wdM_RX12_220 0 12 (gW_at oM) rfl rfl rfl (Nat.le_of_ble_eq_true rfl) dX12_times_239 ⟨by decide, by decide⟩ ⟨rfl, rfl⟩ h (fun v42 t41 h => ?_)
            refine g_pop X rfl dX12_times_242 ?_
            refine g_aload_n X dX12_times_243 5 rfl ?_
            refine g_iconst X dX12_times_244 ?_
            refine g_putI X fM_53w rfl dX12_times_245 h (fun t43 h => ?_)
            refine g_aload_n X dX12_times_248 5 rfl ?_
            refine g_iconst X dX12_times_249 ?_
            refine g_putZ X fM_54w rfl dX12_times_250 h (fun t44 h => ?_)
            refine g_aload_n X dX12_times_253 5 rfl ?_
            refine g_iload_n X dX12_times_254 6 rfl ?_
            refine g_callI (rest := []) X (fun u9 h9 => cp_X12_dancesOn l E r N a0 t44 u9 h9) yy_X12_dancesOn yi_X12_dancesOn wdM_RX12_680 0 12 (gW_at oM) rfl rfl rfl (Nat.le_of_ble_eq_true rfl) dX12_times_255 ⟨by decide, by decide⟩ ⟨rfl, rfl⟩ h (fun v46 t45 h => ?_)
            refine g_istore (lv' := [(10, iv v46), (9, iv v40), (8, iv v39), (7, iv v38), (6, iv v37), (5, iv v36), (0, .ref (r 200)), (1, iv a0), (2, iv a1), (3, iv a2)]) X dX12_times_258 (by decide) rfl ?_
            refine g_aload_n X dX12_times_260 6 rfl ?_
            refine g_iconst X dX12_times_261 ?_
            refine g_putZ X fM_54w rfl dX12_times_262 h (fun t47 h => ?_)
            refine g_aload_n X dX12_times_265 6 rfl ?_
            refine g_iload X dX12_times_266 5 rfl ?_
            refine g_putI X fM_37w rfl dX12_times_268 h (fun t48 h => ?_)
            refine g_aload_n X dX12_times_271 6 rfl ?_
            refine g_iload X dX12_times_272 4 rfl ?_
            refine g_putI X fM_42w rfl dX12_times_274 h (fun t49 h => ?_)
            refine g_aload_n X dX12_times_277 6 rfl ?_
            refine g_iload X dX12_times_278 3 rfl ?_
            refine g_putI X fM_43w rfl dX12_times_280 h (fun t50 h => ?_)
            refine g_aload_n X dX12_times_283 6 rfl ?_
            refine g_iload X dX12_times_284 2 rfl ?_
            refine g_putI X fM_51w rfl dX12_times_286 h (fun t51 h => ?_)
            refine g_aload_n X dX12_times_289 6 rfl ?_
            refine g_iload X dX12_times_290 1 rfl ?_
            refine g_putI X fM_52w rfl dX12_times_292 h (fun t52 h => ?_)
            refine g_aload_n X dX12_times_295 6 rfl ?_
            refine g_callV (rest := []) X (fun u9 h9 => cp_X12_givesFloor l E r N t52 u9 h9) yy_X12_givesFloor yi_X12_givesFloor wdM_RX12_659 0 12 (gW_at oM) rfl rfl rfl (Nat.le_of_ble_eq_true rfl) dX12_times_296 ⟨by decide, by decide⟩ ⟨rfl, rfl⟩ h (fun t53 h => ?_)
            refine g_iconst X dX12_times_299 ?_
            refine g_istore (lv' := [(11, iv 0), (10, iv v46), (9, iv v40), (8, iv v39), (7, iv v38), (6, iv v37), (5, iv v36), (0, .ref (r 200)), (1, iv a0), (2, iv a1), (3, iv a2)]) X dX12_times_300 (by decide) rfl ?_
            refine g_sub (lv' := [(0, .ref (r 200)), (10, iv v46), (11, iv 0)]) [7, 1, 0] rfl (t_f_X12_times_L302 X (fun t64 h => ?_) N 0 t53 h)
            · refine g_iconst X dX12_times_364 ?_
              refine g_istore (lv' := [(11, iv 0), (0, .ref (r 200)), (10, iv v46)]) X dX12_times_365 (by decide) rfl ?_
              refine g_sub (lv' := [(0, .ref (r 200)), (10, iv v46), (11, iv 0)]) [1, 2, 0] rfl (t_f_X12_times_L367 X (fun t77 h => ?_) N 0 t64 h)
              · refine g_iload X dX12_times_437 0 rfl ?_
                exact g_iret X h dX12_times_439
      · refine g_iconst X dX12_times_62 ?_
        exact g_iret X h dX12_times_63
  refine g_if_ne (tgt := 17) X dX12_times_1 (by decide) h (fun h => ?_) (fun h => ?_)
  · refine g_iload_n X dX12_times_17 2 rfl ?_
    refine g_iconst X dX12_times_18 ?_
    refine g_iconst X dX12_times_19 ?_
    refine g_callsI (rest := []) X (fun u9 h9 => cp_X12_in l E r N a1 1 3 t u9 h9) yy_X12_in wdT_X12_in wdM_RX12_227 rfl rfl (Nat.le_of_ble_eq_true rfl) dX12_times_20 ⟨by decide, by decide⟩ ⟨rfl, rfl⟩ h (fun v79 t78 h => ?_)
    refine g_join (J := fun jj => ∀ (t80 : St), jj  t80 = some z → gP p l e rm_f_X12_times s m args below meth c E A 12 (MQ below ((gqI E (gW E r shM) z) A) args s mc ms A) (gW E r shM) 40 [(0, .ref (r 200)), (1, iv a0), (2, iv a1), (3, iv a2)] [] t80) h (fun  t80 h => ?_) (fun J81 hJ81 h => ?_)
    · refine g_iconst X dX12_times_40 ?_
      exact g_sub (lv' := [(0, .ref (r 200)), (1, iv a0), (2, iv a1), (3, iv a2)]) [0, 1, 2, 3] rfl (hJ3 0 t80 h)
    refine g_if_eq (tgt := 40) X dX12_times_23 (by decide) h (fun h => ?_) (fun h => ?_)
    · exact g_sub (lv' := [(0, .ref (r 200)), (1, iv a0), (2, iv a1), (3, iv a2)]) [0, 1, 2, 3] rfl (hJ81 t78 h)
    · refine g_iload_n X dX12_times_26 3 rfl ?_
      refine g_iconst X dX12_times_27 ?_
      refine g_bipush X dX12_times_28 (by decide) ?_
      refine g_callsI (rest := []) X (fun u9 h9 => cp_X12_in l E r N a2 1 32 t78 u9 h9) yy_X12_in wdT_X12_in wdM_RX12_227 rfl rfl (Nat.le_of_ble_eq_true rfl) dX12_times_30 ⟨by decide, by decide⟩ ⟨rfl, rfl⟩ h (fun v83 t82 h => ?_)
      refine g_if_eq (tgt := 40) X dX12_times_33 (by decide) h (fun h => ?_) (fun h => ?_)
      · exact g_sub (lv' := [(0, .ref (r 200)), (1, iv a0), (2, iv a1), (3, iv a2)]) [0, 1, 2, 3] rfl (hJ81 t82 h)
      · refine g_iconst X dX12_times_36 ?_
        refine g_goto (tgt := 41) X dX12_times_37 (by decide) ?_
        exact g_sub (lv' := [(0, .ref (r 200)), (1, iv a0), (2, iv a1), (3, iv a2)]) [0, 1, 2, 3] rfl (hJ3 1 t82 h)
  · refine g_iload_n X dX12_times_4 3 rfl ?_
    refine g_iconst X dX12_times_5 ?_
    refine g_icmp_ne (tgt := 13) X dX12_times_6 (by decide) h (fun h => ?_) (fun h => ?_)
    · refine g_iconst X dX12_times_13 ?_
      refine g_goto (tgt := 41) X dX12_times_14 (by decide) ?_
      exact g_sub (lv' := [(0, .ref (r 200)), (1, iv a0), (2, iv a1), (3, iv a2)]) [0, 1, 2, 3] rfl (hJ3 0 t h)
    · refine g_iconst X dX12_times_9 ?_
      refine g_goto (tgt := 41) X dX12_times_10 (by decide) ?_
      exact g_sub (lv' := [(0, .ref (r 200)), (1, iv a0), (2, iv a1), (3, iv a2)]) [0, 1, 2, 3] rfl (hJ3 1 t h)
set_option maxHeartbeats 4000000 in
set_option maxRecDepth 100000 in
theorem cp_X12_times (l : Launch) (E : cE) (r : Nat → Nat) (N : Nat) (a0 : Int) (a1 : Int) (a2 : Int) (t : St) (z : Int × St) (h : f_X12_times N a0 a1 a2 t = some z) : cM l E yX12_times cX12_times 12 (some .int) rm_f_X12_times [.ref (r 200), iv a0, iv a1, iv a2] (gW E r shM t) (gqI E (gW E r shM) z) := by
  refine g_of (w := gW E r shM) (by decide) (Nat.le_of_ble_eq_true rfl) ?_
  intro p e s m below meth c A X
  exact g_sub (lv' := [(0, .ref (r 200)), (1, iv a0), (2, iv a1), (3, iv a2)]) [0, 1, 2, 3] rfl (b_f_X12_times X h)
theorem yy_X12_times : cY yX12_times cX12_times 12 (some .int) 3 := ⟨wdK_X12_times, wdZ_RX12, by decide +kernel⟩
theorem yi_X12_times : cYi yX12_times := ⟨wdN_X12_times, wdS_X12_times⟩
