theorem dX12_keyAt_0 : decode cX12_keyAt 0 = .ok (.iconst 0, 1) := by decide +kernel
theorem dX12_keyAt_1 : decode cX12_keyAt 1 = .ok (.istore_n 1, 1) := by decide +kernel
theorem dX12_keyAt_2 : decode cX12_keyAt 2 = .ok (.iconst 0, 1) := by decide +kernel
theorem dX12_keyAt_3 : decode cX12_keyAt 3 = .ok (.istore_n 2, 1) := by decide +kernel
theorem dX12_keyAt_4 : decode cX12_keyAt 4 = .ok (.iconst 0, 1) := by decide +kernel
theorem dX12_keyAt_5 : decode cX12_keyAt 5 = .ok (.istore_n 3, 1) := by decide +kernel
theorem dX12_keyAt_6 : decode cX12_keyAt 6 = .ok (.iload_n 3, 1) := by decide +kernel
theorem dX12_keyAt_7 : decode cX12_keyAt 7 = .ok (.ldc_w 297, 3) := by decide +kernel
theorem dX12_keyAt_10 : decode cX12_keyAt 10 = .ok (.invokevirtual 299, 3) := by decide +kernel
theorem dX12_keyAt_13 : decode cX12_keyAt 13 = .ok (.if_icmp .ge 110, 3) := by decide +kernel
theorem dX12_keyAt_16 : decode cX12_keyAt 16 = .ok (.ldc_w 297, 3) := by decide +kernel
theorem dX12_keyAt_19 : decode cX12_keyAt 19 = .ok (.iload_n 3, 1) := by decide +kernel
theorem dX12_keyAt_20 : decode cX12_keyAt 20 = .ok (.invokevirtual 304, 3) := by decide +kernel
theorem dX12_keyAt_23 : decode cX12_keyAt 23 = .ok (.bipush 32, 2) := by decide +kernel
theorem dX12_keyAt_25 : decode cX12_keyAt 25 = .ok (.if_icmp .eq 6, 3) := by decide +kernel
theorem dX12_keyAt_28 : decode cX12_keyAt 28 = .ok (.goto 89, 3) := by decide +kernel
theorem dX12_keyAt_31 : decode cX12_keyAt 31 = .ok (.iload_n 3, 1) := by decide +kernel
theorem dX12_keyAt_32 : decode cX12_keyAt 32 = .ok (.iload_n 2, 1) := by decide +kernel
theorem dX12_keyAt_33 : decode cX12_keyAt 33 = .ok (.isub, 1) := by decide +kernel
theorem dX12_keyAt_34 : decode cX12_keyAt 34 = .ok (.aload_n 0, 1) := by decide +kernel
theorem dX12_keyAt_35 : decode cX12_keyAt 35 = .ok (.getfield 287, 3) := by decide +kernel
theorem dX12_keyAt_38 : decode cX12_keyAt 38 = .ok (.if_icmp .ne 7, 3) := by decide +kernel
theorem dX12_keyAt_41 : decode cX12_keyAt 41 = .ok (.iconst 1, 1) := by decide +kernel
theorem dX12_keyAt_42 : decode cX12_keyAt 42 = .ok (.goto 4, 3) := by decide +kernel
theorem dX12_keyAt_45 : decode cX12_keyAt 45 = .ok (.iconst 0, 1) := by decide +kernel
theorem dX12_keyAt_46 : decode cX12_keyAt 46 = .ok (.istore 4, 2) := by decide +kernel
theorem dX12_keyAt_48 : decode cX12_keyAt 48 = .ok (.iconst 0, 1) := by decide +kernel
theorem dX12_keyAt_49 : decode cX12_keyAt 49 = .ok (.istore 5, 2) := by decide +kernel
theorem dX12_keyAt_51 : decode cX12_keyAt 51 = .ok (.iload 5, 2) := by decide +kernel
theorem dX12_keyAt_53 : decode cX12_keyAt 53 = .ok (.aload_n 0, 1) := by decide +kernel
theorem dX12_keyAt_54 : decode cX12_keyAt 54 = .ok (.getfield 287, 3) := by decide +kernel
theorem dX12_keyAt_57 : decode cX12_keyAt 57 = .ok (.if_icmp .ge 46, 3) := by decide +kernel
theorem dX12_keyAt_60 : decode cX12_keyAt 60 = .ok (.iload 4, 2) := by decide +kernel
theorem dX12_keyAt_62 : decode cX12_keyAt 62 = .ok (.ifCond .eq 41, 3) := by decide +kernel
theorem dX12_keyAt_65 : decode cX12_keyAt 65 = .ok (.ldc_w 297, 3) := by decide +kernel
theorem dX12_keyAt_68 : decode cX12_keyAt 68 = .ok (.iload_n 2, 1) := by decide +kernel
theorem dX12_keyAt_69 : decode cX12_keyAt 69 = .ok (.iload 5, 2) := by decide +kernel
theorem dX12_keyAt_71 : decode cX12_keyAt 71 = .ok (.iadd, 1) := by decide +kernel
theorem dX12_keyAt_72 : decode cX12_keyAt 72 = .ok (.invokevirtual 304, 3) := by decide +kernel
theorem dX12_keyAt_75 : decode cX12_keyAt 75 = .ok (.aload_n 0, 1) := by decide +kernel
theorem dX12_keyAt_76 : decode cX12_keyAt 76 = .ok (.getfield 7, 3) := by decide +kernel
theorem dX12_keyAt_79 : decode cX12_keyAt 79 = .ok (.aload_n 0, 1) := by decide +kernel
theorem dX12_keyAt_80 : decode cX12_keyAt 80 = .ok (.getfield 275, 3) := by decide +kernel
theorem dX12_keyAt_83 : decode cX12_keyAt 83 = .ok (.iload 5, 2) := by decide +kernel
theorem dX12_keyAt_85 : decode cX12_keyAt 85 = .ok (.iadd, 1) := by decide +kernel
theorem dX12_keyAt_86 : decode cX12_keyAt 86 = .ok (.baload, 1) := by decide +kernel
theorem dX12_keyAt_87 : decode cX12_keyAt 87 = .ok (.if_icmp .ne 7, 3) := by decide +kernel
theorem dX12_keyAt_90 : decode cX12_keyAt 90 = .ok (.iconst 1, 1) := by decide +kernel
theorem dX12_keyAt_91 : decode cX12_keyAt 91 = .ok (.goto 4, 3) := by decide +kernel
theorem dX12_keyAt_94 : decode cX12_keyAt 94 = .ok (.iconst 0, 1) := by decide +kernel
theorem dX12_keyAt_95 : decode cX12_keyAt 95 = .ok (.istore 4, 2) := by decide +kernel
theorem dX12_keyAt_97 : decode cX12_keyAt 97 = .ok (.iinc 5 1, 3) := by decide +kernel
theorem dX12_keyAt_100 : decode cX12_keyAt 100 = .ok (.goto (-49), 3) := by decide +kernel
theorem dX12_keyAt_103 : decode cX12_keyAt 103 = .ok (.iload 4, 2) := by decide +kernel
theorem dX12_keyAt_105 : decode cX12_keyAt 105 = .ok (.ifCond .eq 5, 3) := by decide +kernel
theorem dX12_keyAt_108 : decode cX12_keyAt 108 = .ok (.iload_n 1, 1) := by decide +kernel
theorem dX12_keyAt_109 : decode cX12_keyAt 109 = .ok (.ireturn, 1) := by decide +kernel
theorem dX12_keyAt_110 : decode cX12_keyAt 110 = .ok (.iinc 1 1, 3) := by decide +kernel
theorem dX12_keyAt_113 : decode cX12_keyAt 113 = .ok (.iload_n 3, 1) := by decide +kernel
theorem dX12_keyAt_114 : decode cX12_keyAt 114 = .ok (.iconst 1, 1) := by decide +kernel
theorem dX12_keyAt_115 : decode cX12_keyAt 115 = .ok (.iadd, 1) := by decide +kernel
theorem dX12_keyAt_116 : decode cX12_keyAt 116 = .ok (.istore_n 2, 1) := by decide +kernel
theorem dX12_keyAt_117 : decode cX12_keyAt 117 = .ok (.iinc 3 1, 3) := by decide +kernel
theorem dX12_keyAt_120 : decode cX12_keyAt 120 = .ok (.goto (-114), 3) := by decide +kernel
theorem dX12_keyAt_123 : decode cX12_keyAt 123 = .ok (.iconst (-1), 1) := by decide +kernel
theorem dX12_keyAt_124 : decode cX12_keyAt 124 = .ok (.ireturn, 1) := by decide +kernel
abbrev rm_f_X12_keyAt : Room := { frames := 6, cells := 0, slots := 0, locals := 200 }
def f_X12_keyAt_L51 (K21 : (Int → St → Option (Int × St))) (y16 : Int) : Nat → Int → Int → St → Option (Int × St)
  | 0, _, _, _ => none
  | n9 + 1, x18, x19, t20 =>
    lt1 (t20.1 200 6) fun v22 =>
    cmpI x19 v22 (if x19 < v22 then (cmpI x18 0 (if x18 = 0 then (K21 x18 t20)
    else (ixI (y16 + x19) 182 (lt1 (kwZ (y16 + x19).toNat) fun v23 =>
    lt1 (t20.1 200 4) fun v24 =>
    ixI (v24 + x19) 4096 (lt1 (t20.1 0 (v24 + x19).toNat) fun v25 =>
    jn1 (fun (j26 : Int) (t27 : St) => f_X12_keyAt_L51 K21 y16 n9 j26 (x19 + 1) t27) fun J28 =>
    cmpI v23 v25 (if v23 = v25 then (J28 1 t20)
    else (J28 0 t20)))))))
    else (K21 x18 t20))
def f_X12_keyAt_L6 (N : Nat) (K5 : (St → Option (Int × St))) : Nat → Int → Int → Int → St → Option (Int × St)
  | 0, _, _, _, _ => none
  | n9 + 1, x1, x2, x3, t4 =>
    cmpI x3 182 (if x3 < 182 then (ixI x3 182 (lt1 (kwZ x3.toNat) fun v6 =>
    jn1 (fun (j7 : Int) (j8 : Int) (t9 : St) => f_X12_keyAt_L6 N K5 n9 j7 j8 (x3 + 1) t9) fun J10 =>
    cmpI v6 32 (if v6 = 32 then (lt1 (t4.1 200 6) fun v11 =>
    jn1 (fun (j12 : Int) (t13 : St) => f_X12_keyAt_L51 (fun (k29 : Int) (t30 : St) => cmpI k29 0 (if k29 = 0 then (J10 (x1 + 1) (x3 + 1) t30)
    else (some (x1, t30)))) x2 N j12 0 t13) fun J14 =>
    cmpI (x3 - x2) v11 (if (x3 - x2) = v11 then (J14 1 t4)
    else (J14 0 t4)))
    else (J10 x1 x2 t4))))
    else (K5 t4))
def f_X12_keyAt (N : Nat) (t : St) : Option (Int × St) :=
    f_X12_keyAt_L6 N (fun (t31 : St) => some ((-1), t31)) N 0 0 0 t
set_option maxHeartbeats 4000000 in
set_option maxRecDepth 100000 in
theorem t_f_X12_keyAt_L51 {p : Program} {l : Launch} {e : Env} {s : State} {m : MethodId} {args : Array Value} {below : List Frame} {meth : Method} {c : Code} {E : cE} {A : Nat → Prop} {r : Nat → Nat} {mc ms : Nat} {z : Int × St} {K21 : (Int → St → Option (Int × St))} {y15 : Int} {y16 : Int} {y17 : Int} (X : gX p s m meth c cX12_keyAt 6 (some .int) yX12_keyAt args E A) (hK21 : ∀ (q4 : Int) (t9 : St), K21 q4 t9 = some z → gP p l e rm_f_X12_keyAt s m args below meth c E A 6 (MQ below ((gqI E (gW E r shM) z) A) args s mc ms A) (gW E r shM) 103 [(0, .ref (r 200)), (1, iv y15), (3, iv y17), (4, iv q4)] [] t9) : ∀ (n9 : Nat) (x18 : Int) (x19 : Int) (t20 : St), f_X12_keyAt_L51 K21 y16 n9 x18 x19 t20 = some z → gP p l e rm_f_X12_keyAt s m args below meth c E A 6 (MQ below ((gqI E (gW E r shM) z) A) args s mc ms A) (gW E r shM) 51 [(0, .ref (r 200)), (1, iv y15), (2, iv y16), (3, iv y17), (4, iv x18), (5, iv x19)] [] t20 := by
  intro n9
  induction n9 with
  | zero => intro x18 x19 t20 h; cases h
  | succ n9 ih =>
    intro x18 x19 t20 h
    unfold f_X12_keyAt_L51 at h
    refine g_iload X dX12_keyAt_51 5 rfl ?_
    refine g_aload_n X dX12_keyAt_53 0 rfl ?_
    refine g_getI X fM_6 rfl dX12_keyAt_54 h (fun v22 h => ?_)
    refine g_icmp_ge (tgt := 103) X dX12_keyAt_57 (by decide) h (fun h => ?_) (fun h => ?_)
    · exact g_sub (lv' := [(0, .ref (r 200)), (1, iv y15), (3, iv y17), (4, iv x18)]) [0, 1, 3, 4] rfl (hK21 x18 t20 h)
    · refine g_iload X dX12_keyAt_60 4 rfl ?_
      refine g_if_eq (tgt := 103) X dX12_keyAt_62 (by decide) h (fun h => ?_) (fun h => ?_)
      · exact g_sub (lv' := [(0, .ref (r 200)), (1, iv y15), (3, iv y17), (4, iv x18)]) [0, 1, 3, 4] rfl (hK21 x18 t20 h)
      · refine g_ldcSw X rfl (gZs X).1.2.1 dX12_keyAt_65 ?_
        refine g_iload_n X dX12_keyAt_68 2 rfl ?_
        refine g_iload X dX12_keyAt_69 5 rfl ?_
        refine g_iadd X dX12_keyAt_71 ?_
        refine g_charAt X wdM_RX12_304 (by decide) (Nat.le_of_ble_eq_true rfl) dX12_keyAt_72 h (fun v23 h => ?_)
        refine g_aload_n X dX12_keyAt_75 0 rfl ?_
        refine g_getR X fM_0 rfl dX12_keyAt_76 ?_
        refine g_aload_n X dX12_keyAt_79 0 rfl ?_
        refine g_getI X fM_4 rfl dX12_keyAt_80 h (fun v24 h => ?_)
        refine g_iload X dX12_keyAt_83 5 rfl ?_
        refine g_iadd X dX12_keyAt_85 ?_
        refine g_bald X aM_0 dX12_keyAt_86 h (fun v25 h => ?_)
        refine g_join (J := fun jj => ∀ (j26 : Int) (t27 : St), jj j26 t27 = some z → gP p l e rm_f_X12_keyAt s m args below meth c E A 6 (MQ below ((gqI E (gW E r shM) z) A) args s mc ms A) (gW E r shM) 95 [(0, .ref (r 200)), (1, iv y15), (2, iv y16), (3, iv y17), (5, iv x19)] [iv j26] t27) h (fun j26 t27 h => ?_) (fun J28 hJ28 h => ?_)
        · refine g_istore (lv' := [(4, iv j26), (0, .ref (r 200)), (1, iv y15), (2, iv y16), (3, iv y17), (5, iv x19)]) X dX12_keyAt_95 (by decide) rfl ?_
          refine g_iinc (lv' := [(5, iv (x19 + 1)), (4, iv j26), (0, .ref (r 200)), (1, iv y15), (2, iv y16), (3, iv y17)]) X dX12_keyAt_97 (k := 5) rfl (by decide) rfl ?_
          refine g_goto (tgt := 51) X dX12_keyAt_100 (by decide) ?_
          exact g_sub (lv' := [(0, .ref (r 200)), (1, iv y15), (2, iv y16), (3, iv y17), (4, iv j26), (5, iv (x19 + 1))]) [2, 3, 4, 5, 1, 0] rfl (ih j26 (x19 + 1) t27 h)
        refine g_icmp_ne (tgt := 94) X dX12_keyAt_87 (by decide) h (fun h => ?_) (fun h => ?_)
        · refine g_iconst X dX12_keyAt_94 ?_
          exact g_sub (lv' := [(0, .ref (r 200)), (1, iv y15), (2, iv y16), (3, iv y17), (5, iv x19)]) [0, 1, 2, 3, 5] rfl (hJ28 0 t20 h)
        · refine g_iconst X dX12_keyAt_90 ?_
          refine g_goto (tgt := 95) X dX12_keyAt_91 (by decide) ?_
          exact g_sub (lv' := [(0, .ref (r 200)), (1, iv y15), (2, iv y16), (3, iv y17), (5, iv x19)]) [0, 1, 2, 3, 5] rfl (hJ28 1 t20 h)
set_option maxHeartbeats 4000000 in
set_option maxRecDepth 100000 in
theorem t_f_X12_keyAt_L6 {p : Program} {l : Launch} {e : Env} {s : State} {m : MethodId} {args : Array Value} {below : List Frame} {meth : Method} {c : Code} {E : cE} {A : Nat → Prop} {r : Nat → Nat} {mc ms : Nat} {z : Int × St} {N : Nat} {K5 : (St → Option (Int × St))} (X : gX p s m meth c cX12_keyAt 6 (some .int) yX12_keyAt args E A) (hK5 : ∀ (t9 : St), K5 t9 = some z → gP p l e rm_f_X12_keyAt s m args below meth c E A 6 (MQ below ((gqI E (gW E r shM) z) A) args s mc ms A) (gW E r shM) 123 [] [] t9) : ∀ (n9 : Nat) (x1 : Int) (x2 : Int) (x3 : Int) (t4 : St), f_X12_keyAt_L6 N K5 n9 x1 x2 x3 t4 = some z → gP p l e rm_f_X12_keyAt s m args below meth c E A 6 (MQ below ((gqI E (gW E r shM) z) A) args s mc ms A) (gW E r shM) 6 [(0, .ref (r 200)), (1, iv x1), (2, iv x2), (3, iv x3)] [] t4 := by
  intro n9
  induction n9 with
  | zero => intro x1 x2 x3 t4 h; cases h
  | succ n9 ih =>
    intro x1 x2 x3 t4 h
    unfold f_X12_keyAt_L6 at h
    refine g_iload_n X dX12_keyAt_6 3 rfl ?_
    refine g_ldcSw X rfl (gZs X).1.2.1 dX12_keyAt_7 ?_
    refine g_slen X wdM_RX12_299 (by decide) (Nat.le_of_ble_eq_true rfl) dX12_keyAt_10 ?_
    refine g_icmp_ge (tgt := 123) X dX12_keyAt_13 (by decide) h (fun h => ?_) (fun h => ?_)
    · exact g_sub (lv' := []) [] rfl (hK5 t4 h)
    · refine g_ldcSw X rfl (gZs X).1.2.1 dX12_keyAt_16 ?_
      refine g_iload_n X dX12_keyAt_19 3 rfl ?_
      refine g_charAt X wdM_RX12_304 (by decide) (Nat.le_of_ble_eq_true rfl) dX12_keyAt_20 h (fun v6 h => ?_)
      refine g_bipush X dX12_keyAt_23 (by decide) ?_
      refine g_join (J := fun jj => ∀ (j7 : Int) (j8 : Int) (t9 : St), jj j7 j8 t9 = some z → gP p l e rm_f_X12_keyAt s m args below meth c E A 6 (MQ below ((gqI E (gW E r shM) z) A) args s mc ms A) (gW E r shM) 117 [(0, .ref (r 200)), (1, iv j7), (2, iv j8), (3, iv x3)] [] t9) h (fun j7 j8 t9 h => ?_) (fun J10 hJ10 h => ?_)
      · refine g_iinc (lv' := [(3, iv (x3 + 1)), (0, .ref (r 200)), (1, iv j7), (2, iv j8)]) X dX12_keyAt_117 (k := 3) rfl (by decide) rfl ?_
        refine g_goto (tgt := 6) X dX12_keyAt_120 (by decide) ?_
        exact g_sub (lv' := [(0, .ref (r 200)), (1, iv j7), (2, iv j8), (3, iv (x3 + 1))]) [1, 2, 3, 0] rfl (ih j7 j8 (x3 + 1) t9 h)
      refine g_icmp_eq (tgt := 31) X dX12_keyAt_25 (by decide) h (fun h => ?_) (fun h => ?_)
      · refine g_iload_n X dX12_keyAt_31 3 rfl ?_
        refine g_iload_n X dX12_keyAt_32 2 rfl ?_
        refine g_isub X dX12_keyAt_33 ?_
        refine g_aload_n X dX12_keyAt_34 0 rfl ?_
        refine g_getI X fM_6 rfl dX12_keyAt_35 h (fun v11 h => ?_)
        refine g_join (J := fun jj => ∀ (j12 : Int) (t13 : St), jj j12 t13 = some z → gP p l e rm_f_X12_keyAt s m args below meth c E A 6 (MQ below ((gqI E (gW E r shM) z) A) args s mc ms A) (gW E r shM) 46 [(0, .ref (r 200)), (1, iv x1), (2, iv x2), (3, iv x3)] [iv j12] t13) h (fun j12 t13 h => ?_) (fun J14 hJ14 h => ?_)
        · refine g_istore (lv' := [(4, iv j12), (0, .ref (r 200)), (1, iv x1), (2, iv x2), (3, iv x3)]) X dX12_keyAt_46 (by decide) rfl ?_
          refine g_iconst X dX12_keyAt_48 ?_
          refine g_istore (lv' := [(5, iv 0), (4, iv j12), (0, .ref (r 200)), (1, iv x1), (2, iv x2), (3, iv x3)]) X dX12_keyAt_49 (by decide) rfl ?_
          refine g_sub (lv' := [(0, .ref (r 200)), (1, iv x1), (2, iv x2), (3, iv x3), (4, iv j12), (5, iv 0)]) [2, 3, 4, 5, 1, 0] rfl (t_f_X12_keyAt_L51 X (fun k29 t30 h => ?_) N j12 0 t13 h)
          · refine g_iload X dX12_keyAt_103 3 rfl ?_
            refine g_if_eq (tgt := 110) X dX12_keyAt_105 (by decide) h (fun h => ?_) (fun h => ?_)
            · refine g_iinc (lv' := [(1, iv (x1 + 1)), (0, .ref (r 200)), (3, iv x3), (4, iv k29)]) X dX12_keyAt_110 (k := 1) rfl (by decide) rfl ?_
              refine g_iload_n X dX12_keyAt_113 2 rfl ?_
              refine g_iconst X dX12_keyAt_114 ?_
              refine g_iadd X dX12_keyAt_115 ?_
              refine g_istore_n (lv' := [(2, iv (x3 + 1)), (1, iv (x1 + 1)), (0, .ref (r 200)), (3, iv x3), (4, iv k29)]) X dX12_keyAt_116 rfl (by decide) rfl ?_
              exact g_sub (lv' := [(0, .ref (r 200)), (1, iv (x1 + 1)), (2, iv (x3 + 1)), (3, iv x3)]) [2, 1, 0, 3] rfl (hJ10 (x1 + 1) (x3 + 1) t30 h)
            · refine g_iload_n X dX12_keyAt_108 1 rfl ?_
              exact g_iret X h dX12_keyAt_109
        refine g_icmp_ne (tgt := 45) X dX12_keyAt_38 (by decide) h (fun h => ?_) (fun h => ?_)
        · refine g_iconst X dX12_keyAt_45 ?_
          exact g_sub (lv' := [(0, .ref (r 200)), (1, iv x1), (2, iv x2), (3, iv x3)]) [0, 1, 2, 3] rfl (hJ14 0 t4 h)
        · refine g_iconst X dX12_keyAt_41 ?_
          refine g_goto (tgt := 46) X dX12_keyAt_42 (by decide) ?_
          exact g_sub (lv' := [(0, .ref (r 200)), (1, iv x1), (2, iv x2), (3, iv x3)]) [0, 1, 2, 3] rfl (hJ14 1 t4 h)
      · refine g_goto (tgt := 117) X dX12_keyAt_28 (by decide) ?_
        exact g_sub (lv' := [(0, .ref (r 200)), (1, iv x1), (2, iv x2), (3, iv x3)]) [0, 1, 2, 3] rfl (hJ10 x1 x2 t4 h)
set_option maxHeartbeats 4000000 in
set_option maxRecDepth 100000 in
theorem b_f_X12_keyAt {p : Program} {l : Launch} {e : Env} {s : State} {m : MethodId} {args : Array Value} {below : List Frame} {meth : Method} {c : Code} {E : cE} {A : Nat → Prop} {r : Nat → Nat} {mc ms : Nat} {z : Int × St} {N : Nat} {t : St} (X : gX p s m meth c cX12_keyAt 6 (some .int) yX12_keyAt args E A) (h : f_X12_keyAt N t = some z) : gP p l e rm_f_X12_keyAt s m args below meth c E A 6 (MQ below ((gqI E (gW E r shM) z) A) args s mc ms A) (gW E r shM) 0 [(0, .ref (r 200))] [] t := by
  unfold f_X12_keyAt at h
  refine g_iconst X dX12_keyAt_0 ?_
  refine g_istore_n (lv' := [(1, iv 0), (0, .ref (r 200))]) X dX12_keyAt_1 rfl (by decide) rfl ?_
  refine g_iconst X dX12_keyAt_2 ?_
  refine g_istore_n (lv' := [(2, iv 0), (1, iv 0), (0, .ref (r 200))]) X dX12_keyAt_3 rfl (by decide) rfl ?_
  refine g_iconst X dX12_keyAt_4 ?_
  refine g_istore_n (lv' := [(3, iv 0), (2, iv 0), (1, iv 0), (0, .ref (r 200))]) X dX12_keyAt_5 rfl (by decide) rfl ?_
  refine g_sub (lv' := [(0, .ref (r 200)), (1, iv 0), (2, iv 0), (3, iv 0)]) [3, 2, 1, 0] rfl (t_f_X12_keyAt_L6 X (fun t31 h => ?_) N 0 0 0 t h)
  · refine g_iconst X dX12_keyAt_123 ?_
    exact g_iret X h dX12_keyAt_124
set_option maxHeartbeats 4000000 in
set_option maxRecDepth 100000 in
theorem cp_X12_keyAt (l : Launch) (E : cE) (r : Nat → Nat) (N : Nat) (t : St) (z : Int × St) (h : f_X12_keyAt N t = some z) : cM l E yX12_keyAt cX12_keyAt 6 (some .int) rm_f_X12_keyAt [.ref (r 200)] (gW E r shM t) (gqI E (gW E r shM) z) := by
  refine g_of (w := gW E r shM) (by decide) (Nat.le_of_ble_eq_true rfl) ?_
  intro p e s m below meth c A X
  exact g_sub (lv' := [(0, .ref (r 200))]) [0] rfl (b_f_X12_keyAt X h)
theorem yy_X12_keyAt : cY yX12_keyAt cX12_keyAt 6 (some .int) 0 := ⟨wdK_X12_keyAt, wdZ_RX12, by decide +kernel⟩
theorem yi_X12_keyAt : cYi yX12_keyAt := ⟨wdN_X12_keyAt, wdS_X12_keyAt⟩
theorem dX12_next_0 : decode cX12_next 0 = .ok (.aload_n 0, 1) := by decide +kernel
theorem dX12_next_1 : decode cX12_next 1 = .ok (.aload_n 0, 1) := by decide +kernel
theorem dX12_next_2 : decode cX12_next 2 = .ok (.getfield 264, 3) := by decide +kernel
theorem dX12_next_5 : decode cX12_next 5 = .ok (.invokevirtual 267, 3) := by decide +kernel
theorem dX12_next_8 : decode cX12_next 8 = .ok (.invokestatic 271, 3) := by decide +kernel
theorem dX12_next_11 : decode cX12_next 11 = .ok (.ifCond .ne 16, 3) := by decide +kernel
theorem dX12_next_14 : decode cX12_next 14 = .ok (.aload_n 0, 1) := by decide +kernel
theorem dX12_next_15 : decode cX12_next 15 = .ok (.aload_n 0, 1) := by decide +kernel
theorem dX12_next_16 : decode cX12_next 16 = .ok (.getfield 264, 3) := by decide +kernel
theorem dX12_next_19 : decode cX12_next 19 = .ok (.invokevirtual 267, 3) := by decide +kernel
theorem dX12_next_22 : decode cX12_next 22 = .ok (.bipush 35, 2) := by decide +kernel
theorem dX12_next_24 : decode cX12_next 24 = .ok (.if_icmp .ne 67, 3) := by decide +kernel
theorem dX12_next_27 : decode cX12_next 27 = .ok (.aload_n 0, 1) := by decide +kernel
theorem dX12_next_28 : decode cX12_next 28 = .ok (.aload_n 0, 1) := by decide +kernel
theorem dX12_next_29 : decode cX12_next 29 = .ok (.getfield 264, 3) := by decide +kernel
theorem dX12_next_32 : decode cX12_next 32 = .ok (.invokevirtual 267, 3) := by decide +kernel
theorem dX12_next_35 : decode cX12_next 35 = .ok (.bipush 35, 2) := by decide +kernel
theorem dX12_next_37 : decode cX12_next 37 = .ok (.if_icmp .ne 41, 3) := by decide +kernel
theorem dX12_next_40 : decode cX12_next 40 = .ok (.aload_n 0, 1) := by decide +kernel
theorem dX12_next_41 : decode cX12_next 41 = .ok (.aload_n 0, 1) := by decide +kernel
theorem dX12_next_42 : decode cX12_next 42 = .ok (.getfield 264, 3) := by decide +kernel
theorem dX12_next_45 : decode cX12_next 45 = .ok (.invokevirtual 267, 3) := by decide +kernel
theorem dX12_next_48 : decode cX12_next 48 = .ok (.iconst (-1), 1) := by decide +kernel
theorem dX12_next_49 : decode cX12_next 49 = .ok (.if_icmp .eq (-49), 3) := by decide +kernel
theorem dX12_next_52 : decode cX12_next 52 = .ok (.aload_n 0, 1) := by decide +kernel
theorem dX12_next_53 : decode cX12_next 53 = .ok (.aload_n 0, 1) := by decide +kernel
theorem dX12_next_54 : decode cX12_next 54 = .ok (.getfield 264, 3) := by decide +kernel
theorem dX12_next_57 : decode cX12_next 57 = .ok (.invokevirtual 267, 3) := by decide +kernel
theorem dX12_next_60 : decode cX12_next 60 = .ok (.bipush 10, 2) := by decide +kernel
theorem dX12_next_62 : decode cX12_next 62 = .ok (.if_icmp .eq (-62), 3) := by decide +kernel
theorem dX12_next_65 : decode cX12_next 65 = .ok (.aload_n 0, 1) := by decide +kernel
theorem dX12_next_66 : decode cX12_next 66 = .ok (.dup, 1) := by decide +kernel
theorem dX12_next_67 : decode cX12_next 67 = .ok (.getfield 264, 3) := by decide +kernel
theorem dX12_next_70 : decode cX12_next 70 = .ok (.iconst 1, 1) := by decide +kernel
theorem dX12_next_71 : decode cX12_next 71 = .ok (.iadd, 1) := by decide +kernel
theorem dX12_next_72 : decode cX12_next 72 = .ok (.putfield 264, 3) := by decide +kernel
theorem dX12_next_75 : decode cX12_next 75 = .ok (.goto (-35), 3) := by decide +kernel
theorem dX12_next_78 : decode cX12_next 78 = .ok (.aload_n 0, 1) := by decide +kernel
theorem dX12_next_79 : decode cX12_next 79 = .ok (.dup, 1) := by decide +kernel
theorem dX12_next_80 : decode cX12_next 80 = .ok (.getfield 264, 3) := by decide +kernel
theorem dX12_next_83 : decode cX12_next 83 = .ok (.iconst 1, 1) := by decide +kernel
theorem dX12_next_84 : decode cX12_next 84 = .ok (.iadd, 1) := by decide +kernel
theorem dX12_next_85 : decode cX12_next 85 = .ok (.putfield 264, 3) := by decide +kernel
theorem dX12_next_88 : decode cX12_next 88 = .ok (.goto (-88), 3) := by decide +kernel
theorem dX12_next_91 : decode cX12_next 91 = .ok (.aload_n 0, 1) := by decide +kernel
theorem dX12_next_92 : decode cX12_next 92 = .ok (.aload_n 0, 1) := by decide +kernel
theorem dX12_next_93 : decode cX12_next 93 = .ok (.getfield 264, 3) := by decide +kernel
theorem dX12_next_96 : decode cX12_next 96 = .ok (.putfield 275, 3) := by decide +kernel
theorem dX12_next_99 : decode cX12_next 99 = .ok (.aload_n 0, 1) := by decide +kernel
theorem dX12_next_100 : decode cX12_next 100 = .ok (.aload_n 0, 1) := by decide +kernel
theorem dX12_next_101 : decode cX12_next 101 = .ok (.getfield 264, 3) := by decide +kernel
theorem dX12_next_104 : decode cX12_next 104 = .ok (.invokevirtual 267, 3) := by decide +kernel
theorem dX12_next_107 : decode cX12_next 107 = .ok (.istore_n 1, 1) := by decide +kernel
theorem dX12_next_108 : decode cX12_next 108 = .ok (.iload_n 1, 1) := by decide +kernel
theorem dX12_next_109 : decode cX12_next 109 = .ok (.iconst (-1), 1) := by decide +kernel
theorem dX12_next_110 : decode cX12_next 110 = .ok (.if_icmp .ne 11, 3) := by decide +kernel
theorem dX12_next_113 : decode cX12_next 113 = .ok (.aload_n 0, 1) := by decide +kernel
theorem dX12_next_114 : decode cX12_next 114 = .ok (.iconst 0, 1) := by decide +kernel
theorem dX12_next_115 : decode cX12_next 115 = .ok (.putfield 278, 3) := by decide +kernel
theorem dX12_next_118 : decode cX12_next 118 = .ok (.goto 362, 3) := by decide +kernel
theorem dX12_next_121 : decode cX12_next 121 = .ok (.iload_n 1, 1) := by decide +kernel
theorem dX12_next_122 : decode cX12_next 122 = .ok (.invokestatic 281, 3) := by decide +kernel
theorem dX12_next_125 : decode cX12_next 125 = .ok (.ifCond .eq 111, 3) := by decide +kernel
theorem dX12_next_128 : decode cX12_next 128 = .ok (.aload_n 0, 1) := by decide +kernel
theorem dX12_next_129 : decode cX12_next 129 = .ok (.aload_n 0, 1) := by decide +kernel
theorem dX12_next_130 : decode cX12_next 130 = .ok (.getfield 264, 3) := by decide +kernel
theorem dX12_next_133 : decode cX12_next 133 = .ok (.invokevirtual 267, 3) := by decide +kernel
theorem dX12_next_136 : decode cX12_next 136 = .ok (.invokestatic 281, 3) := by decide +kernel
theorem dX12_next_139 : decode cX12_next 139 = .ok (.ifCond .ne 30, 3) := by decide +kernel
theorem dX12_next_142 : decode cX12_next 142 = .ok (.aload_n 0, 1) := by decide +kernel
theorem dX12_next_143 : decode cX12_next 143 = .ok (.aload_n 0, 1) := by decide +kernel
theorem dX12_next_144 : decode cX12_next 144 = .ok (.getfield 264, 3) := by decide +kernel
theorem dX12_next_147 : decode cX12_next 147 = .ok (.invokevirtual 267, 3) := by decide +kernel
theorem dX12_next_150 : decode cX12_next 150 = .ok (.invokestatic 284, 3) := by decide +kernel
theorem dX12_next_153 : decode cX12_next 153 = .ok (.ifCond .ne 16, 3) := by decide +kernel
theorem dX12_next_156 : decode cX12_next 156 = .ok (.aload_n 0, 1) := by decide +kernel
theorem dX12_next_157 : decode cX12_next 157 = .ok (.aload_n 0, 1) := by decide +kernel
theorem dX12_next_158 : decode cX12_next 158 = .ok (.getfield 264, 3) := by decide +kernel
theorem dX12_next_161 : decode cX12_next 161 = .ok (.invokevirtual 267, 3) := by decide +kernel
theorem dX12_next_164 : decode cX12_next 164 = .ok (.bipush 95, 2) := by decide +kernel
theorem dX12_next_166 : decode cX12_next 166 = .ok (.if_icmp .ne 16, 3) := by decide +kernel
theorem dX12_next_169 : decode cX12_next 169 = .ok (.aload_n 0, 1) := by decide +kernel
theorem dX12_next_170 : decode cX12_next 170 = .ok (.dup, 1) := by decide +kernel
theorem dX12_next_171 : decode cX12_next 171 = .ok (.getfield 264, 3) := by decide +kernel
theorem dX12_next_174 : decode cX12_next 174 = .ok (.iconst 1, 1) := by decide +kernel
theorem dX12_next_175 : decode cX12_next 175 = .ok (.iadd, 1) := by decide +kernel
theorem dX12_next_176 : decode cX12_next 176 = .ok (.putfield 264, 3) := by decide +kernel
theorem dX12_next_179 : decode cX12_next 179 = .ok (.goto (-51), 3) := by decide +kernel
theorem dX12_next_182 : decode cX12_next 182 = .ok (.aload_n 0, 1) := by decide +kernel
theorem dX12_next_183 : decode cX12_next 183 = .ok (.aload_n 0, 1) := by decide +kernel
theorem dX12_next_184 : decode cX12_next 184 = .ok (.getfield 264, 3) := by decide +kernel
theorem dX12_next_187 : decode cX12_next 187 = .ok (.aload_n 0, 1) := by decide +kernel
theorem dX12_next_188 : decode cX12_next 188 = .ok (.getfield 275, 3) := by decide +kernel
theorem dX12_next_191 : decode cX12_next 191 = .ok (.isub, 1) := by decide +kernel
theorem dX12_next_192 : decode cX12_next 192 = .ok (.putfield 287, 3) := by decide +kernel
theorem dX12_next_195 : decode cX12_next 195 = .ok (.aload_n 0, 1) := by decide +kernel
theorem dX12_next_196 : decode cX12_next 196 = .ok (.aload_n 0, 1) := by decide +kernel
theorem dX12_next_197 : decode cX12_next 197 = .ok (.invokevirtual 290, 3) := by decide +kernel
theorem dX12_next_200 : decode cX12_next 200 = .ok (.putfield 294, 3) := by decide +kernel
theorem dX12_next_203 : decode cX12_next 203 = .ok (.aload_n 0, 1) := by decide +kernel
theorem dX12_next_204 : decode cX12_next 204 = .ok (.aload_n 0, 1) := by decide +kernel
theorem dX12_next_205 : decode cX12_next 205 = .ok (.getfield 287, 3) := by decide +kernel
theorem dX12_next_208 : decode cX12_next 208 = .ok (.bipush 24, 2) := by decide +kernel
theorem dX12_next_210 : decode cX12_next 210 = .ok (.if_icmp .le 7, 3) := by decide +kernel
theorem dX12_next_213 : decode cX12_next 213 = .ok (.iconst 5, 1) := by decide +kernel
theorem dX12_next_214 : decode cX12_next 214 = .ok (.goto 16, 3) := by decide +kernel
theorem dX12_next_217 : decode cX12_next 217 = .ok (.aload_n 0, 1) := by decide +kernel
theorem dX12_next_218 : decode cX12_next 218 = .ok (.getfield 294, 3) := by decide +kernel
theorem dX12_next_221 : decode cX12_next 221 = .ok (.iconst (-1), 1) := by decide +kernel
theorem dX12_next_222 : decode cX12_next 222 = .ok (.if_icmp .ne 7, 3) := by decide +kernel
theorem dX12_next_225 : decode cX12_next 225 = .ok (.iconst 2, 1) := by decide +kernel
theorem dX12_next_226 : decode cX12_next 226 = .ok (.goto 4, 3) := by decide +kernel
theorem dX12_next_229 : decode cX12_next 229 = .ok (.iconst 1, 1) := by decide +kernel
theorem dX12_next_230 : decode cX12_next 230 = .ok (.putfield 278, 3) := by decide +kernel
theorem dX12_next_233 : decode cX12_next 233 = .ok (.goto 247, 3) := by decide +kernel
theorem dX12_next_236 : decode cX12_next 236 = .ok (.iload_n 1, 1) := by decide +kernel
theorem dX12_next_237 : decode cX12_next 237 = .ok (.invokestatic 284, 3) := by decide +kernel
theorem dX12_next_240 : decode cX12_next 240 = .ok (.ifCond .ne 9, 3) := by decide +kernel
theorem dX12_next_243 : decode cX12_next 243 = .ok (.iload_n 1, 1) := by decide +kernel
theorem dX12_next_244 : decode cX12_next 244 = .ok (.bipush 45, 2) := by decide +kernel
theorem dX12_next_246 : decode cX12_next 246 = .ok (.if_icmp .ne 152, 3) := by decide +kernel
theorem dX12_next_249 : decode cX12_next 249 = .ok (.aload_n 0, 1) := by decide +kernel
theorem dX12_next_250 : decode cX12_next 250 = .ok (.dup, 1) := by decide +kernel
theorem dX12_next_251 : decode cX12_next 251 = .ok (.getfield 264, 3) := by decide +kernel
theorem dX12_next_254 : decode cX12_next 254 = .ok (.iconst 1, 1) := by decide +kernel
theorem dX12_next_255 : decode cX12_next 255 = .ok (.iadd, 1) := by decide +kernel
theorem dX12_next_256 : decode cX12_next 256 = .ok (.putfield 264, 3) := by decide +kernel
theorem dX12_next_259 : decode cX12_next 259 = .ok (.iload_n 1, 1) := by decide +kernel
theorem dX12_next_260 : decode cX12_next 260 = .ok (.bipush 45, 2) := by decide +kernel
theorem dX12_next_262 : decode cX12_next 262 = .ok (.if_icmp .ne 7, 3) := by decide +kernel
theorem dX12_next_265 : decode cX12_next 265 = .ok (.iconst 0, 1) := by decide +kernel
theorem dX12_next_266 : decode cX12_next 266 = .ok (.goto 4, 3) := by decide +kernel
theorem dX12_next_269 : decode cX12_next 269 = .ok (.iconst 1, 1) := by decide +kernel
theorem dX12_next_270 : decode cX12_next 270 = .ok (.istore_n 2, 1) := by decide +kernel
theorem dX12_next_271 : decode cX12_next 271 = .ok (.aload_n 0, 1) := by decide +kernel
theorem dX12_next_272 : decode cX12_next 272 = .ok (.iload_n 1, 1) := by decide +kernel
theorem dX12_next_273 : decode cX12_next 273 = .ok (.bipush 45, 2) := by decide +kernel
theorem dX12_next_275 : decode cX12_next 275 = .ok (.if_icmp .ne 7, 3) := by decide +kernel
theorem dX12_next_278 : decode cX12_next 278 = .ok (.iconst 0, 1) := by decide +kernel
theorem dX12_next_279 : decode cX12_next 279 = .ok (.goto 7, 3) := by decide +kernel
theorem dX12_next_282 : decode cX12_next 282 = .ok (.iload_n 1, 1) := by decide +kernel
theorem dX12_next_283 : decode cX12_next 283 = .ok (.bipush 48, 2) := by decide +kernel
theorem dX12_next_285 : decode cX12_next 285 = .ok (.isub, 1) := by decide +kernel
theorem dX12_next_286 : decode cX12_next 286 = .ok (.putfield 294, 3) := by decide +kernel
theorem dX12_next_289 : decode cX12_next 289 = .ok (.aload_n 0, 1) := by decide +kernel
theorem dX12_next_290 : decode cX12_next 290 = .ok (.aload_n 0, 1) := by decide +kernel
theorem dX12_next_291 : decode cX12_next 291 = .ok (.getfield 264, 3) := by decide +kernel
theorem dX12_next_294 : decode cX12_next 294 = .ok (.invokevirtual 267, 3) := by decide +kernel
theorem dX12_next_297 : decode cX12_next 297 = .ok (.invokestatic 284, 3) := by decide +kernel
theorem dX12_next_300 : decode cX12_next 300 = .ok (.ifCond .eq 55, 3) := by decide +kernel
theorem dX12_next_303 : decode cX12_next 303 = .ok (.iinc 2 1, 3) := by decide +kernel
theorem dX12_next_306 : decode cX12_next 306 = .ok (.aload_n 0, 1) := by decide +kernel
theorem dX12_next_307 : decode cX12_next 307 = .ok (.iload_n 2, 1) := by decide +kernel
theorem dX12_next_308 : decode cX12_next 308 = .ok (.bipush 6, 2) := by decide +kernel
theorem dX12_next_310 : decode cX12_next 310 = .ok (.if_icmp .ge 25, 3) := by decide +kernel
theorem dX12_next_313 : decode cX12_next 313 = .ok (.bipush 10, 2) := by decide +kernel
theorem dX12_next_315 : decode cX12_next 315 = .ok (.aload_n 0, 1) := by decide +kernel
theorem dX12_next_316 : decode cX12_next 316 = .ok (.getfield 294, 3) := by decide +kernel
theorem dX12_next_319 : decode cX12_next 319 = .ok (.imul, 1) := by decide +kernel
theorem dX12_next_320 : decode cX12_next 320 = .ok (.aload_n 0, 1) := by decide +kernel
theorem dX12_next_321 : decode cX12_next 321 = .ok (.aload_n 0, 1) := by decide +kernel
theorem dX12_next_322 : decode cX12_next 322 = .ok (.getfield 264, 3) := by decide +kernel
theorem dX12_next_325 : decode cX12_next 325 = .ok (.invokevirtual 267, 3) := by decide +kernel
theorem dX12_next_328 : decode cX12_next 328 = .ok (.iadd, 1) := by decide +kernel
theorem dX12_next_329 : decode cX12_next 329 = .ok (.bipush 48, 2) := by decide +kernel
theorem dX12_next_331 : decode cX12_next 331 = .ok (.isub, 1) := by decide +kernel
theorem dX12_next_332 : decode cX12_next 332 = .ok (.goto 7, 3) := by decide +kernel
theorem dX12_next_335 : decode cX12_next 335 = .ok (.aload_n 0, 1) := by decide +kernel
theorem dX12_next_336 : decode cX12_next 336 = .ok (.getfield 294, 3) := by decide +kernel
theorem dX12_next_339 : decode cX12_next 339 = .ok (.putfield 294, 3) := by decide +kernel
theorem dX12_next_342 : decode cX12_next 342 = .ok (.aload_n 0, 1) := by decide +kernel
theorem dX12_next_343 : decode cX12_next 343 = .ok (.dup, 1) := by decide +kernel
theorem dX12_next_344 : decode cX12_next 344 = .ok (.getfield 264, 3) := by decide +kernel
theorem dX12_next_347 : decode cX12_next 347 = .ok (.iconst 1, 1) := by decide +kernel
theorem dX12_next_348 : decode cX12_next 348 = .ok (.iadd, 1) := by decide +kernel
theorem dX12_next_349 : decode cX12_next 349 = .ok (.putfield 264, 3) := by decide +kernel
theorem dX12_next_352 : decode cX12_next 352 = .ok (.goto (-63), 3) := by decide +kernel
theorem dX12_next_355 : decode cX12_next 355 = .ok (.aload_n 0, 1) := by decide +kernel
theorem dX12_next_356 : decode cX12_next 356 = .ok (.iload_n 2, 1) := by decide +kernel
theorem dX12_next_357 : decode cX12_next 357 = .ok (.iconst 1, 1) := by decide +kernel
theorem dX12_next_358 : decode cX12_next 358 = .ok (.iconst 5, 1) := by decide +kernel
theorem dX12_next_359 : decode cX12_next 359 = .ok (.invokestatic 227, 3) := by decide +kernel
theorem dX12_next_362 : decode cX12_next 362 = .ok (.ifCond .eq 7, 3) := by decide +kernel
theorem dX12_next_365 : decode cX12_next 365 = .ok (.iconst 3, 1) := by decide +kernel
theorem dX12_next_366 : decode cX12_next 366 = .ok (.goto 4, 3) := by decide +kernel
theorem dX12_next_369 : decode cX12_next 369 = .ok (.iconst 5, 1) := by decide +kernel
theorem dX12_next_370 : decode cX12_next 370 = .ok (.putfield 278, 3) := by decide +kernel
theorem dX12_next_373 : decode cX12_next 373 = .ok (.aload_n 0, 1) := by decide +kernel
theorem dX12_next_374 : decode cX12_next 374 = .ok (.iload_n 1, 1) := by decide +kernel
theorem dX12_next_375 : decode cX12_next 375 = .ok (.bipush 45, 2) := by decide +kernel
theorem dX12_next_377 : decode cX12_next 377 = .ok (.if_icmp .ne 11, 3) := by decide +kernel
theorem dX12_next_380 : decode cX12_next 380 = .ok (.aload_n 0, 1) := by decide +kernel
theorem dX12_next_381 : decode cX12_next 381 = .ok (.getfield 294, 3) := by decide +kernel
theorem dX12_next_384 : decode cX12_next 384 = .ok (.ineg, 1) := by decide +kernel
theorem dX12_next_385 : decode cX12_next 385 = .ok (.goto 7, 3) := by decide +kernel
theorem dX12_next_388 : decode cX12_next 388 = .ok (.aload_n 0, 1) := by decide +kernel
theorem dX12_next_389 : decode cX12_next 389 = .ok (.getfield 294, 3) := by decide +kernel
theorem dX12_next_392 : decode cX12_next 392 = .ok (.putfield 294, 3) := by decide +kernel
theorem dX12_next_395 : decode cX12_next 395 = .ok (.goto 85, 3) := by decide +kernel
theorem dX12_next_398 : decode cX12_next 398 = .ok (.aload_n 0, 1) := by decide +kernel
theorem dX12_next_399 : decode cX12_next 399 = .ok (.dup, 1) := by decide +kernel
theorem dX12_next_400 : decode cX12_next 400 = .ok (.getfield 264, 3) := by decide +kernel
theorem dX12_next_403 : decode cX12_next 403 = .ok (.iconst 1, 1) := by decide +kernel
theorem dX12_next_404 : decode cX12_next 404 = .ok (.iadd, 1) := by decide +kernel
theorem dX12_next_405 : decode cX12_next 405 = .ok (.putfield 264, 3) := by decide +kernel
theorem dX12_next_408 : decode cX12_next 408 = .ok (.aload_n 0, 1) := by decide +kernel
theorem dX12_next_409 : decode cX12_next 409 = .ok (.iload_n 1, 1) := by decide +kernel
theorem dX12_next_410 : decode cX12_next 410 = .ok (.putfield 294, 3) := by decide +kernel
theorem dX12_next_413 : decode cX12_next 413 = .ok (.iload_n 1, 1) := by decide +kernel
theorem dX12_next_414 : decode cX12_next 414 = .ok (.bipush 123, 2) := by decide +kernel
theorem dX12_next_416 : decode cX12_next 416 = .ok (.if_icmp .eq 45, 3) := by decide +kernel
theorem dX12_next_419 : decode cX12_next 419 = .ok (.iload_n 1, 1) := by decide +kernel
theorem dX12_next_420 : decode cX12_next 420 = .ok (.bipush 125, 2) := by decide +kernel
theorem dX12_next_422 : decode cX12_next 422 = .ok (.if_icmp .eq 39, 3) := by decide +kernel
theorem dX12_next_425 : decode cX12_next 425 = .ok (.iload_n 1, 1) := by decide +kernel
theorem dX12_next_426 : decode cX12_next 426 = .ok (.bipush 40, 2) := by decide +kernel
theorem dX12_next_428 : decode cX12_next 428 = .ok (.if_icmp .eq 33, 3) := by decide +kernel
theorem dX12_next_431 : decode cX12_next 431 = .ok (.iload_n 1, 1) := by decide +kernel
theorem dX12_next_432 : decode cX12_next 432 = .ok (.bipush 41, 2) := by decide +kernel
theorem dX12_next_434 : decode cX12_next 434 = .ok (.if_icmp .eq 27, 3) := by decide +kernel
theorem dX12_next_437 : decode cX12_next 437 = .ok (.iload_n 1, 1) := by decide +kernel
theorem dX12_next_438 : decode cX12_next 438 = .ok (.bipush 44, 2) := by decide +kernel
theorem dX12_next_440 : decode cX12_next 440 = .ok (.if_icmp .eq 21, 3) := by decide +kernel
theorem dX12_next_443 : decode cX12_next 443 = .ok (.iload_n 1, 1) := by decide +kernel
theorem dX12_next_444 : decode cX12_next 444 = .ok (.bipush 59, 2) := by decide +kernel
theorem dX12_next_446 : decode cX12_next 446 = .ok (.if_icmp .eq 15, 3) := by decide +kernel
theorem dX12_next_449 : decode cX12_next 449 = .ok (.iload_n 1, 1) := by decide +kernel
theorem dX12_next_450 : decode cX12_next 450 = .ok (.bipush 61, 2) := by decide +kernel
theorem dX12_next_452 : decode cX12_next 452 = .ok (.if_icmp .eq 9, 3) := by decide +kernel
theorem dX12_next_455 : decode cX12_next 455 = .ok (.iload_n 1, 1) := by decide +kernel
theorem dX12_next_456 : decode cX12_next 456 = .ok (.bipush 38, 2) := by decide +kernel
theorem dX12_next_458 : decode cX12_next 458 = .ok (.if_icmp .ne 7, 3) := by decide +kernel
theorem dX12_next_461 : decode cX12_next 461 = .ok (.iconst 1, 1) := by decide +kernel
theorem dX12_next_462 : decode cX12_next 462 = .ok (.goto 4, 3) := by decide +kernel
theorem dX12_next_465 : decode cX12_next 465 = .ok (.iconst 0, 1) := by decide +kernel
theorem dX12_next_466 : decode cX12_next 466 = .ok (.istore_n 2, 1) := by decide +kernel
theorem dX12_next_467 : decode cX12_next 467 = .ok (.aload_n 0, 1) := by decide +kernel
theorem dX12_next_468 : decode cX12_next 468 = .ok (.iload_n 2, 1) := by decide +kernel
theorem dX12_next_469 : decode cX12_next 469 = .ok (.ifCond .eq 7, 3) := by decide +kernel
theorem dX12_next_472 : decode cX12_next 472 = .ok (.iconst 4, 1) := by decide +kernel
theorem dX12_next_473 : decode cX12_next 473 = .ok (.goto 4, 3) := by decide +kernel
theorem dX12_next_476 : decode cX12_next 476 = .ok (.iconst 5, 1) := by decide +kernel
theorem dX12_next_477 : decode cX12_next 477 = .ok (.putfield 278, 3) := by decide +kernel
theorem dX12_next_480 : decode cX12_next 480 = .ok (.return_, 1) := by decide +kernel
abbrev rm_f_X12_next : Room := { frames := 7, cells := 0, slots := 0, locals := 225 }
def f_X12_next_L40 (N : Nat) (K16 : (St → Option (St))) : Nat → St → Option (St)
  | 0, _ => none
  | n9 + 1, t15 =>
    lt1 (t15.1 200 2) fun v17 =>
    bdI (f_X12_byteAt N v17 t15) fun v19 t18 =>
    cmpI v19 (-1) (if v19 = (-1) then (K16 t18)
    else (lt1 (t18.1 200 2) fun v20 =>
    bdI (f_X12_byteAt N v20 t18) fun v22 t21 =>
    cmpI v22 10 (if v22 = 10 then (K16 t21)
    else (lt1 (t21.1 200 2) fun v23 =>
    lt1 (pI t21 200 2 (v23 + 1)) fun t24 =>
    f_X12_next_L40 N K16 n9 t24))))
def f_X12_next_L0 (N : Nat) (K2 : (St → Option (St))) : Nat → St → Option (St)
  | 0, _ => none
  | n9 + 1, t1 =>
    lt1 (t1.1 200 2) fun v3 =>
    bdI (f_X12_byteAt N v3 t1) fun v5 t4 =>
    bdI (f_X12_isBlank N v5 t4) fun v7 t6 =>
    jn1 (fun (t8 : St) => lt1 (t8.1 200 2) fun v10 =>
    bdI (f_X12_byteAt N v10 t8) fun v12 t11 =>
    cmpI v12 35 (if v12 = 35 then (f_X12_next_L40 N (fun (t25 : St) => f_X12_next_L0 N K2 n9 t25) N t11)
    else (lt1 (t11.1 200 2) fun v13 =>
    lt1 (pI t11 200 2 (v13 + 1)) fun t14 =>
    f_X12_next_L0 N K2 n9 t14))) fun J9 =>
    cmpI v7 0 (if v7 = 0 then (lt1 (t6.1 200 2) fun v26 =>
    bdI (f_X12_byteAt N v26 t6) fun v28 t27 =>
    cmpI v28 35 (if v28 = 35 then (J9 t27)
    else (K2 t27)))
    else (J9 t6))
def f_X12_next_L289 (N : Nat) (K53 : (Int → St → Option (St))) : Nat → Int → St → Option (St)
  | 0, _, _ => none
  | n9 + 1, x51, t52 =>
    lt1 (t52.1 200 2) fun v54 =>
    bdI (f_X12_byteAt N v54 t52) fun v56 t55 =>
    bdI (f_X12_isDigit N v56 t55) fun v58 t57 =>
    cmpI v58 0 (if v58 = 0 then (K53 x51 t57)
    else (jn1 (fun (j59 : Int) (t60 : St) => lt1 (pI t60 200 5 j59) fun t62 =>
    lt1 (t62.1 200 2) fun v63 =>
    lt1 (pI t62 200 2 (v63 + 1)) fun t64 =>
    f_X12_next_L289 N K53 n9 (x51 + 1) t64) fun J61 =>
    cmpI (x51 + 1) 6 (if (x51 + 1) < 6 then (lt1 (t57.1 200 5) fun v66 =>
    lt1 (t57.1 200 2) fun v67 =>
    bdI (f_X12_byteAt N v67 t57) fun v69 t68 =>
    J61 (((10 * v66) + v69) - 48) t68)
    else (lt1 (t57.1 200 5) fun v65 =>
    J61 v65 t57))))
def f_X12_next_L128 (N : Nat) (K93 : (St → Option (St))) : Nat → St → Option (St)
  | 0, _ => none
  | n9 + 1, t92 =>
    lt1 (t92.1 200 2) fun v94 =>
    bdI (f_X12_byteAt N v94 t92) fun v96 t95 =>
    bdI (f_X12_isLetter N v96 t95) fun v98 t97 =>
    jn1 (fun (t99 : St) => lt1 (t99.1 200 2) fun v101 =>
    lt1 (pI t99 200 2 (v101 + 1)) fun t102 =>
    f_X12_next_L128 N K93 n9 t102) fun J100 =>
    cmpI v98 0 (if v98 = 0 then (lt1 (t97.1 200 2) fun v103 =>
    bdI (f_X12_byteAt N v103 t97) fun v105 t104 =>
    bdI (f_X12_isDigit N v105 t104) fun v107 t106 =>
    cmpI v107 0 (if v107 = 0 then (lt1 (t106.1 200 2) fun v108 =>
    bdI (f_X12_byteAt N v108 t106) fun v110 t109 =>
    cmpI v110 95 (if v110 = 95 then (J100 t109)
    else (K93 t109)))
    else (J100 t106)))
    else (J100 t97))
def f_X12_next (N : Nat) (t : St) : Option (St) :=
    f_X12_next_L0 N (fun (t29 : St) => lt1 (t29.1 200 2) fun v30 =>
    lt1 (pI t29 200 4 v30) fun t31 =>
    lt1 (t31.1 200 2) fun v32 =>
    bdI (f_X12_byteAt N v32 t31) fun v34 t33 =>
    cmpI v34 (-1) (if v34 = (-1) then (lt1 (pI t33 200 3 0) fun t123 =>
    some t123)
    else (bdI (f_X12_isLetter N v34 t33) fun v36 t35 =>
    cmpI v36 0 (if v36 = 0 then (bdI (f_X12_isDigit N v34 t35) fun v38 t37 =>
    jn1 (fun (t39 : St) => lt1 (t39.1 200 2) fun v41 =>
    lt1 (pI t39 200 2 (v41 + 1)) fun t42 =>
    jn1 (fun (j43 : Int) (t44 : St) => jn1 (fun (j46 : Int) (t47 : St) => lt1 (pI t47 200 5 j46) fun t49 =>
    f_X12_next_L289 N (fun (k70 : Int) (t71 : St) => bdI (f_X12_in N k70 1 5 t71) fun v73 t72 =>
    jn1 (fun (j74 : Int) (t75 : St) => lt1 (pI t75 200 3 j74) fun t77 =>
    cmpI v34 45 (if v34 = 45 then (lt1 (t77.1 200 5) fun v80 =>
    lt1 (pI t77 200 5 (-v80)) fun t81 =>
    some t81)
    else (lt1 (t77.1 200 5) fun v78 =>
    lt1 (pI t77 200 5 v78) fun t79 =>
    some t79))) fun J76 =>
    cmpI v73 0 (if v73 = 0 then (J76 5 t72)
    else (J76 3 t72))) N j43 t49) fun J48 =>
    cmpI v34 45 (if v34 = 45 then (J48 0 t44)
    else (J48 (v34 - 48) t44))) fun J45 =>
    cmpI v34 45 (if v34 = 45 then (J45 0 t42)
    else (J45 1 t42))) fun J40 =>
    cmpI v38 0 (if v38 = 0 then (cmpI v34 45 (if v34 = 45 then (J40 t37)
    else (lt1 (t37.1 200 2) fun v82 =>
    lt1 (pI t37 200 2 (v82 + 1)) fun t83 =>
    lt1 (pI t83 200 5 v34) fun t84 =>
    jn1 (fun (j85 : Int) (t86 : St) => cmpI j85 0 (if j85 = 0 then (lt1 (pI t86 200 3 5) fun t88 =>
    some t88)
    else (lt1 (pI t86 200 3 4) fun t89 =>
    some t89))) fun J87 =>
    jn1 (fun (t90 : St) => J87 1 t90) fun J91 =>
    cmpI v34 123 (if v34 = 123 then (J91 t84)
    else (cmpI v34 125 (if v34 = 125 then (J91 t84)
    else (cmpI v34 40 (if v34 = 40 then (J91 t84)
    else (cmpI v34 41 (if v34 = 41 then (J91 t84)
    else (cmpI v34 44 (if v34 = 44 then (J91 t84)
    else (cmpI v34 59 (if v34 = 59 then (J91 t84)
    else (cmpI v34 61 (if v34 = 61 then (J91 t84)
    else (cmpI v34 38 (if v34 = 38 then (J91 t84)
    else (J87 0 t84)))))))))))))))))))
    else (J40 t37)))
    else (f_X12_next_L128 N (fun (t111 : St) => lt1 (t111.1 200 2) fun v112 =>
    lt1 (t111.1 200 4) fun v113 =>
    lt1 (pI t111 200 6 (v112 - v113)) fun t114 =>
    bdI (f_X12_keyAt N t114) fun v116 t115 =>
    lt1 (pI t115 200 5 v116) fun t117 =>
    lt1 (t117.1 200 6) fun v118 =>
    cmpI v118 24 (if 24 < v118 then (lt1 (pI t117 200 3 5) fun t122 =>
    some t122)
    else (lt1 (t117.1 200 5) fun v119 =>
    cmpI v119 (-1) (if v119 = (-1) then (lt1 (pI t117 200 3 2) fun t121 =>
    some t121)
    else (lt1 (pI t117 200 3 1) fun t120 =>
    some t120))))) N t35))))) N t
set_option maxHeartbeats 4000000 in
set_option maxRecDepth 100000 in
theorem t_f_X12_next_L40 {p : Program} {l : Launch} {e : Env} {s : State} {m : MethodId} {args : Array Value} {below : List Frame} {meth : Method} {c : Code} {E : cE} {A : Nat → Prop} {r : Nat → Nat} {mc ms : Nat} {z : St} {N : Nat} {K16 : (St → Option (St))} (X : gX p s m meth c cX12_next 3 none yX12_next args E A) (hK16 : ∀ (t9 : St), K16 t9 = some z → gP p l e rm_f_X12_next s m args below meth c E A 3 (MQ below ((gqV E (gW E r shM) z) A) args s mc ms A) (gW E r shM) 0 [(0, .ref (r 200))] [] t9) : ∀ (n9 : Nat) (t15 : St), f_X12_next_L40 N K16 n9 t15 = some z → gP p l e rm_f_X12_next s m args below meth c E A 3 (MQ below ((gqV E (gW E r shM) z) A) args s mc ms A) (gW E r shM) 40 [(0, .ref (r 200))] [] t15 := by
  intro n9
  induction n9 with
  | zero => intro t15 h; cases h
  | succ n9 ih =>
    intro t15 h
    unfold f_X12_next_L40 at h
    refine g_aload_n X dX12_next_40 0 rfl ?_
    refine g_aload_n X dX12_next_41 0 rfl ?_
    refine g_getI X fM_2 rfl dX12_next_42 h (fun v17 h => ?_)
    refine g_callI (rest := []) X (fun u9 h9 => cp_X12_byteAt l E r N v17 t15 u9 h9) yy_X12_byteAt yi_X12_byteAt wdM_RX12_267 0 12 (gW_at oM) rfl rfl rfl (Nat.le_of_ble_eq_true rfl) dX12_next_45 ⟨by decide, by decide⟩ ⟨rfl, rfl⟩ h (fun v19 t18 h => ?_)
    refine g_iconst X dX12_next_48 ?_
    refine g_icmp_eq (tgt := 0) X dX12_next_49 (by decide) h (fun h => ?_) (fun h => ?_)
    · exact g_sub (lv' := [(0, .ref (r 200))]) [0] rfl (hK16 t18 h)
    · refine g_aload_n X dX12_next_52 0 rfl ?_
      refine g_aload_n X dX12_next_53 0 rfl ?_
      refine g_getI X fM_2 rfl dX12_next_54 h (fun v20 h => ?_)
      refine g_callI (rest := []) X (fun u9 h9 => cp_X12_byteAt l E r N v20 t18 u9 h9) yy_X12_byteAt yi_X12_byteAt wdM_RX12_267 0 12 (gW_at oM) rfl rfl rfl (Nat.le_of_ble_eq_true rfl) dX12_next_57 ⟨by decide, by decide⟩ ⟨rfl, rfl⟩ h (fun v22 t21 h => ?_)
      refine g_bipush X dX12_next_60 (by decide) ?_
      refine g_icmp_eq (tgt := 0) X dX12_next_62 (by decide) h (fun h => ?_) (fun h => ?_)
      · exact g_sub (lv' := [(0, .ref (r 200))]) [0] rfl (hK16 t21 h)
      · refine g_aload_n X dX12_next_65 0 rfl ?_
        refine g_dup X rfl dX12_next_66 ?_
        refine g_getI X fM_2 rfl dX12_next_67 h (fun v23 h => ?_)
        refine g_iconst X dX12_next_70 ?_
        refine g_iadd X dX12_next_71 ?_
        refine g_putI X fM_2w rfl dX12_next_72 h (fun t24 h => ?_)
        refine g_goto (tgt := 40) X dX12_next_75 (by decide) ?_
        exact g_sub (lv' := [(0, .ref (r 200))]) [0] rfl (ih t24 h)
set_option maxHeartbeats 4000000 in
set_option maxRecDepth 100000 in
theorem t_f_X12_next_L0 {p : Program} {l : Launch} {e : Env} {s : State} {m : MethodId} {args : Array Value} {below : List Frame} {meth : Method} {c : Code} {E : cE} {A : Nat → Prop} {r : Nat → Nat} {mc ms : Nat} {z : St} {N : Nat} {K2 : (St → Option (St))} (X : gX p s m meth c cX12_next 3 none yX12_next args E A) (hK2 : ∀ (t9 : St), K2 t9 = some z → gP p l e rm_f_X12_next s m args below meth c E A 3 (MQ below ((gqV E (gW E r shM) z) A) args s mc ms A) (gW E r shM) 91 [(0, .ref (r 200))] [] t9) : ∀ (n9 : Nat) (t1 : St), f_X12_next_L0 N K2 n9 t1 = some z → gP p l e rm_f_X12_next s m args below meth c E A 3 (MQ below ((gqV E (gW E r shM) z) A) args s mc ms A) (gW E r shM) 0 [(0, .ref (r 200))] [] t1 := by
  intro n9
  induction n9 with
  | zero => intro t1 h; cases h
  | succ n9 ih =>
    intro t1 h
    unfold f_X12_next_L0 at h
    refine g_aload_n X dX12_next_0 0 rfl ?_
    refine g_aload_n X dX12_next_1 0 rfl ?_
    refine g_getI X fM_2 rfl dX12_next_2 h (fun v3 h => ?_)
    refine g_callI (rest := []) X (fun u9 h9 => cp_X12_byteAt l E r N v3 t1 u9 h9) yy_X12_byteAt yi_X12_byteAt wdM_RX12_267 0 12 (gW_at oM) rfl rfl rfl (Nat.le_of_ble_eq_true rfl) dX12_next_5 ⟨by decide, by decide⟩ ⟨rfl, rfl⟩ h (fun v5 t4 h => ?_)
    refine g_callsI (rest := []) X (fun u9 h9 => cp_X12_isBlank l E r N v5 t4 u9 h9) yy_X12_isBlank wdT_X12_isBlank wdM_RX12_271 rfl rfl (Nat.le_of_ble_eq_true rfl) dX12_next_8 ⟨by decide, by decide⟩ ⟨rfl, rfl⟩ h (fun v7 t6 h => ?_)
    refine g_join (J := fun jj => ∀ (t8 : St), jj  t8 = some z → gP p l e rm_f_X12_next s m args below meth c E A 3 (MQ below ((gqV E (gW E r shM) z) A) args s mc ms A) (gW E r shM) 27 [(0, .ref (r 200))] [] t8) h (fun  t8 h => ?_) (fun J9 hJ9 h => ?_)
    · refine g_aload_n X dX12_next_27 0 rfl ?_
      refine g_aload_n X dX12_next_28 0 rfl ?_
      refine g_getI X fM_2 rfl dX12_next_29 h (fun v10 h => ?_)
      refine g_callI (rest := []) X (fun u9 h9 => cp_X12_byteAt l E r N v10 t8 u9 h9) yy_X12_byteAt yi_X12_byteAt wdM_RX12_267 0 12 (gW_at oM) rfl rfl rfl (Nat.le_of_ble_eq_true rfl) dX12_next_32 ⟨by decide, by decide⟩ ⟨rfl, rfl⟩ h (fun v12 t11 h => ?_)
      refine g_bipush X dX12_next_35 (by decide) ?_
      refine g_icmp_ne (tgt := 78) X dX12_next_37 (by decide) h (fun h => ?_) (fun h => ?_)
      · refine g_aload_n X dX12_next_78 0 rfl ?_
        refine g_dup X rfl dX12_next_79 ?_
        refine g_getI X fM_2 rfl dX12_next_80 h (fun v13 h => ?_)
        refine g_iconst X dX12_next_83 ?_
        refine g_iadd X dX12_next_84 ?_
        refine g_putI X fM_2w rfl dX12_next_85 h (fun t14 h => ?_)
        refine g_goto (tgt := 0) X dX12_next_88 (by decide) ?_
        exact g_sub (lv' := [(0, .ref (r 200))]) [0] rfl (ih t14 h)
      · refine g_sub (lv' := [(0, .ref (r 200))]) [0] rfl (t_f_X12_next_L40 X (fun t25 h => ?_) N t11 h)
        · exact g_sub (lv' := [(0, .ref (r 200))]) [0] rfl (ih t25 h)
    refine g_if_ne (tgt := 27) X dX12_next_11 (by decide) h (fun h => ?_) (fun h => ?_)
    · exact g_sub (lv' := [(0, .ref (r 200))]) [0] rfl (hJ9 t6 h)
    · refine g_aload_n X dX12_next_14 0 rfl ?_
      refine g_aload_n X dX12_next_15 0 rfl ?_
      refine g_getI X fM_2 rfl dX12_next_16 h (fun v26 h => ?_)
      refine g_callI (rest := []) X (fun u9 h9 => cp_X12_byteAt l E r N v26 t6 u9 h9) yy_X12_byteAt yi_X12_byteAt wdM_RX12_267 0 12 (gW_at oM) rfl rfl rfl (Nat.le_of_ble_eq_true rfl) dX12_next_19 ⟨by decide, by decide⟩ ⟨rfl, rfl⟩ h (fun v28 t27 h => ?_)
      refine g_bipush X dX12_next_22 (by decide) ?_
      refine g_icmp_ne (tgt := 91) X dX12_next_24 (by decide) h (fun h => ?_) (fun h => ?_)
      · exact g_sub (lv' := [(0, .ref (r 200))]) [0] rfl (hK2 t27 h)
      · exact g_sub (lv' := [(0, .ref (r 200))]) [0] rfl (hJ9 t27 h)
set_option maxHeartbeats 4000000 in
set_option maxRecDepth 100000 in
theorem t_f_X12_next_L289 {p : Program} {l : Launch} {e : Env} {s : State} {m : MethodId} {args : Array Value} {below : List Frame} {meth : Method} {c : Code} {E : cE} {A : Nat → Prop} {r : Nat → Nat} {mc ms : Nat} {z : St} {N : Nat} {K53 : (Int → St → Option (St))} {y50 : Int} (X : gX p s m meth c cX12_next 3 none yX12_next args E A) (hK53 : ∀ (q2 : Int) (t9 : St), K53 q2 t9 = some z → gP p l e rm_f_X12_next s m args below meth c E A 3 (MQ below ((gqV E (gW E r shM) z) A) args s mc ms A) (gW E r shM) 355 [(0, .ref (r 200)), (1, iv y50), (2, iv q2)] [] t9) : ∀ (n9 : Nat) (x51 : Int) (t52 : St), f_X12_next_L289 N K53 n9 x51 t52 = some z → gP p l e rm_f_X12_next s m args below meth c E A 3 (MQ below ((gqV E (gW E r shM) z) A) args s mc ms A) (gW E r shM) 289 [(0, .ref (r 200)), (1, iv y50), (2, iv x51)] [] t52 := by
  intro n9
  induction n9 with
  | zero => intro x51 t52 h; cases h
  | succ n9 ih =>
    intro x51 t52 h
    unfold f_X12_next_L289 at h
    refine g_aload_n X dX12_next_289 0 rfl ?_
    refine g_aload_n X dX12_next_290 0 rfl ?_
    refine g_getI X fM_2 rfl dX12_next_291 h (fun v54 h => ?_)
    refine g_callI (rest := []) X (fun u9 h9 => cp_X12_byteAt l E r N v54 t52 u9 h9) yy_X12_byteAt yi_X12_byteAt wdM_RX12_267 0 12 (gW_at oM) rfl rfl rfl (Nat.le_of_ble_eq_true rfl) dX12_next_294 ⟨by decide, by decide⟩ ⟨rfl, rfl⟩ h (fun v56 t55 h => ?_)
    refine g_callsI (rest := []) X (fun u9 h9 => cp_X12_isDigit l E r N v56 t55 u9 h9) yy_X12_isDigit wdT_X12_isDigit wdM_RX12_284 rfl rfl (Nat.le_of_ble_eq_true rfl) dX12_next_297 ⟨by decide, by decide⟩ ⟨rfl, rfl⟩ h (fun v58 t57 h => ?_)
    refine g_if_eq (tgt := 355) X dX12_next_300 (by decide) h (fun h => ?_) (fun h => ?_)
    · exact g_sub (lv' := [(0, .ref (r 200)), (1, iv y50), (2, iv x51)]) [0, 1, 2] rfl (hK53 x51 t57 h)
    · refine g_iinc (lv' := [(2, iv (x51 + 1)), (0, .ref (r 200)), (1, iv y50)]) X dX12_next_303 (k := 2) rfl (by decide) rfl ?_
      refine g_aload_n X dX12_next_306 1 rfl ?_
      refine g_iload_n X dX12_next_307 0 rfl ?_
      refine g_bipush X dX12_next_308 (by decide) ?_
      refine g_join (J := fun jj => ∀ (j59 : Int) (t60 : St), jj j59 t60 = some z → gP p l e rm_f_X12_next s m args below meth c E A 3 (MQ below ((gqV E (gW E r shM) z) A) args s mc ms A) (gW E r shM) 339 [(0, .ref (r 200)), (1, iv y50), (2, iv (x51 + 1))] [iv j59, .ref (r 200)] t60) h (fun j59 t60 h => ?_) (fun J61 hJ61 h => ?_)
      · refine g_putI X fM_5w rfl dX12_next_339 h (fun t62 h => ?_)
        refine g_aload_n X dX12_next_342 0 rfl ?_
        refine g_dup X rfl dX12_next_343 ?_
        refine g_getI X fM_2 rfl dX12_next_344 h (fun v63 h => ?_)
        refine g_iconst X dX12_next_347 ?_
        refine g_iadd X dX12_next_348 ?_
        refine g_putI X fM_2w rfl dX12_next_349 h (fun t64 h => ?_)
        refine g_goto (tgt := 289) X dX12_next_352 (by decide) ?_
        exact g_sub (lv' := [(0, .ref (r 200)), (1, iv y50), (2, iv (x51 + 1))]) [0, 1, 2] rfl (ih (x51 + 1) t64 h)
      refine g_icmp_ge (tgt := 335) X dX12_next_310 (by decide) h (fun h => ?_) (fun h => ?_)
      · refine g_aload_n X dX12_next_335 1 rfl ?_
        refine g_getI X fM_5 rfl dX12_next_336 h (fun v65 h => ?_)
        exact g_sub (lv' := [(0, .ref (r 200)), (1, iv y50), (2, iv (x51 + 1))]) [1, 2, 0] rfl (hJ61 v65 t57 h)
      · refine g_bipush X dX12_next_313 (by decide) ?_
        refine g_aload_n X dX12_next_315 1 rfl ?_
        refine g_getI X fM_5 rfl dX12_next_316 h (fun v66 h => ?_)
        refine g_imul X dX12_next_319 ?_
        refine g_aload_n X dX12_next_320 1 rfl ?_
        refine g_aload_n X dX12_next_321 1 rfl ?_
        refine g_getI X fM_2 rfl dX12_next_322 h (fun v67 h => ?_)
        refine g_callI (rest := [iv (10 * v66), .ref (r 200)]) X (fun u9 h9 => cp_X12_byteAt l E r N v67 t57 u9 h9) yy_X12_byteAt yi_X12_byteAt wdM_RX12_267 0 12 (gW_at oM) rfl rfl rfl (Nat.le_of_ble_eq_true rfl) dX12_next_325 ⟨by decide, by decide⟩ ⟨rfl, rfl⟩ h (fun v69 t68 h => ?_)
        refine g_iadd X dX12_next_328 ?_
        refine g_bipush X dX12_next_329 (by decide) ?_
        refine g_isub X dX12_next_331 ?_
        refine g_goto (tgt := 339) X dX12_next_332 (by decide) ?_
        exact g_sub (lv' := [(0, .ref (r 200)), (1, iv y50), (2, iv (x51 + 1))]) [1, 2, 0] rfl (hJ61 (((10 * v66) + v69) - 48) t68 h)
set_option maxHeartbeats 4000000 in
set_option maxRecDepth 100000 in
theorem t_f_X12_next_L128 {p : Program} {l : Launch} {e : Env} {s : State} {m : MethodId} {args : Array Value} {below : List Frame} {meth : Method} {c : Code} {E : cE} {A : Nat → Prop} {r : Nat → Nat} {mc ms : Nat} {z : St} {N : Nat} {K93 : (St → Option (St))} (X : gX p s m meth c cX12_next 3 none yX12_next args E A) (hK93 : ∀ (t9 : St), K93 t9 = some z → gP p l e rm_f_X12_next s m args below meth c E A 3 (MQ below ((gqV E (gW E r shM) z) A) args s mc ms A) (gW E r shM) 182 [(0, .ref (r 200))] [] t9) : ∀ (n9 : Nat) (t92 : St), f_X12_next_L128 N K93 n9 t92 = some z → gP p l e rm_f_X12_next s m args below meth c E A 3 (MQ below ((gqV E (gW E r shM) z) A) args s mc ms A) (gW E r shM) 128 [(0, .ref (r 200))] [] t92 := by
  intro n9
  induction n9 with
  | zero => intro t92 h; cases h
  | succ n9 ih =>
    intro t92 h
    unfold f_X12_next_L128 at h
    refine g_aload_n X dX12_next_128 0 rfl ?_
    refine g_aload_n X dX12_next_129 0 rfl ?_
    refine g_getI X fM_2 rfl dX12_next_130 h (fun v94 h => ?_)
    refine g_callI (rest := []) X (fun u9 h9 => cp_X12_byteAt l E r N v94 t92 u9 h9) yy_X12_byteAt yi_X12_byteAt wdM_RX12_267 0 12 (gW_at oM) rfl rfl rfl (Nat.le_of_ble_eq_true rfl) dX12_next_133 ⟨by decide, by decide⟩ ⟨rfl, rfl⟩ h (fun v96 t95 h => ?_)
    refine g_callsI (rest := []) X (fun u9 h9 => cp_X12_isLetter l E r N v96 t95 u9 h9) yy_X12_isLetter wdT_X12_isLetter wdM_RX12_281 rfl rfl (Nat.le_of_ble_eq_true rfl) dX12_next_136 ⟨by decide, by decide⟩ ⟨rfl, rfl⟩ h (fun v98 t97 h => ?_)
    refine g_join (J := fun jj => ∀ (t99 : St), jj  t99 = some z → gP p l e rm_f_X12_next s m args below meth c E A 3 (MQ below ((gqV E (gW E r shM) z) A) args s mc ms A) (gW E r shM) 169 [(0, .ref (r 200))] [] t99) h (fun  t99 h => ?_) (fun J100 hJ100 h => ?_)
    · refine g_aload_n X dX12_next_169 0 rfl ?_
      refine g_dup X rfl dX12_next_170 ?_
      refine g_getI X fM_2 rfl dX12_next_171 h (fun v101 h => ?_)
      refine g_iconst X dX12_next_174 ?_
      refine g_iadd X dX12_next_175 ?_
      refine g_putI X fM_2w rfl dX12_next_176 h (fun t102 h => ?_)
      refine g_goto (tgt := 128) X dX12_next_179 (by decide) ?_
      exact g_sub (lv' := [(0, .ref (r 200))]) [0] rfl (ih t102 h)
    refine g_if_ne (tgt := 169) X dX12_next_139 (by decide) h (fun h => ?_) (fun h => ?_)
    · exact g_sub (lv' := [(0, .ref (r 200))]) [0] rfl (hJ100 t97 h)
    · refine g_aload_n X dX12_next_142 0 rfl ?_
      refine g_aload_n X dX12_next_143 0 rfl ?_
      refine g_getI X fM_2 rfl dX12_next_144 h (fun v103 h => ?_)
      refine g_callI (rest := []) X (fun u9 h9 => cp_X12_byteAt l E r N v103 t97 u9 h9) yy_X12_byteAt yi_X12_byteAt wdM_RX12_267 0 12 (gW_at oM) rfl rfl rfl (Nat.le_of_ble_eq_true rfl) dX12_next_147 ⟨by decide, by decide⟩ ⟨rfl, rfl⟩ h (fun v105 t104 h => ?_)
      refine g_callsI (rest := []) X (fun u9 h9 => cp_X12_isDigit l E r N v105 t104 u9 h9) yy_X12_isDigit wdT_X12_isDigit wdM_RX12_284 rfl rfl (Nat.le_of_ble_eq_true rfl) dX12_next_150 ⟨by decide, by decide⟩ ⟨rfl, rfl⟩ h (fun v107 t106 h => ?_)
      refine g_if_ne (tgt := 169) X dX12_next_153 (by decide) h (fun h => ?_) (fun h => ?_)
      · exact g_sub (lv' := [(0, .ref (r 200))]) [0] rfl (hJ100 t106 h)
      · refine g_aload_n X dX12_next_156 0 rfl ?_
        refine g_aload_n X dX12_next_157 0 rfl ?_
        refine g_getI X fM_2 rfl dX12_next_158 h (fun v108 h => ?_)
        refine g_callI (rest := []) X (fun u9 h9 => cp_X12_byteAt l E r N v108 t106 u9 h9) yy_X12_byteAt yi_X12_byteAt wdM_RX12_267 0 12 (gW_at oM) rfl rfl rfl (Nat.le_of_ble_eq_true rfl) dX12_next_161 ⟨by decide, by decide⟩ ⟨rfl, rfl⟩ h (fun v110 t109 h => ?_)
        refine g_bipush X dX12_next_164 (by decide) ?_
        refine g_icmp_ne (tgt := 182) X dX12_next_166 (by decide) h (fun h => ?_) (fun h => ?_)
        · exact g_sub (lv' := [(0, .ref (r 200))]) [0] rfl (hK93 t109 h)
        · exact g_sub (lv' := [(0, .ref (r 200))]) [0] rfl (hJ100 t109 h)
set_option maxHeartbeats 4000000 in
set_option maxRecDepth 100000 in
theorem b_f_X12_next {p : Program} {l : Launch} {e : Env} {s : State} {m : MethodId} {args : Array Value} {below : List Frame} {meth : Method} {c : Code} {E : cE} {A : Nat → Prop} {r : Nat → Nat} {mc ms : Nat} {z : St} {N : Nat} {t : St} (X : gX p s m meth c cX12_next 3 none yX12_next args E A) (h : f_X12_next N t = some z) : gP p l e rm_f_X12_next s m args below meth c E A 3 (MQ below ((gqV E (gW E r shM) z) A) args s mc ms A) (gW E r shM) 0 [(0, .ref (r 200))] [] t := by
  unfold f_X12_next at h
  refine g_sub (lv' := [(0, .ref (r 200))]) [0] rfl (t_f_X12_next_L0 X (fun t29 h => ?_) N t h)
  · refine g_aload_n X dX12_next_91 0 rfl ?_
    refine g_aload_n X dX12_next_92 0 rfl ?_
    refine g_getI X fM_2 rfl dX12_next_93 h (fun v30 h => ?_)
    refine g_putI X fM_4w rfl dX12_next_96 h (fun t31 h => ?_)
    refine g_aload_n X dX12_next_99 0 rfl ?_
    refine g_aload_n X dX12_next_100 0 rfl ?_
    refine g_getI X fM_2 rfl dX12_next_101 h (fun v32 h => ?_)
    refine g_callI (rest := []) X (fun u9 h9 => cp_X12_byteAt l E r N v32 t31 u9 h9) yy_X12_byteAt yi_X12_byteAt wdM_RX12_267 0 12 (gW_at oM) rfl rfl rfl (Nat.le_of_ble_eq_true rfl) dX12_next_104 ⟨by decide, by decide⟩ ⟨rfl, rfl⟩ h (fun v34 t33 h => ?_)
    refine g_istore_n (lv' := [(1, iv v34), (0, .ref (r 200))]) X dX12_next_107 rfl (by decide) rfl ?_
    refine g_iload_n X dX12_next_108 0 rfl ?_
    refine g_iconst X dX12_next_109 ?_
    refine g_icmp_ne (tgt := 121) X dX12_next_110 (by decide) h (fun h => ?_) (fun h => ?_)
    · refine g_iload_n X dX12_next_121 0 rfl ?_
      refine g_callsI (rest := []) X (fun u9 h9 => cp_X12_isLetter l E r N v34 t33 u9 h9) yy_X12_isLetter wdT_X12_isLetter wdM_RX12_281 rfl rfl (Nat.le_of_ble_eq_true rfl) dX12_next_122 ⟨by decide, by decide⟩ ⟨rfl, rfl⟩ h (fun v36 t35 h => ?_)
      refine g_if_eq (tgt := 236) X dX12_next_125 (by decide) h (fun h => ?_) (fun h => ?_)
      · refine g_iload_n X dX12_next_236 0 rfl ?_
        refine g_callsI (rest := []) X (fun u9 h9 => cp_X12_isDigit l E r N v34 t35 u9 h9) yy_X12_isDigit wdT_X12_isDigit wdM_RX12_284 rfl rfl (Nat.le_of_ble_eq_true rfl) dX12_next_237 ⟨by decide, by decide⟩ ⟨rfl, rfl⟩ h (fun v38 t37 h => ?_)
        refine g_join (J := fun jj => ∀ (t39 : St), jj  t39 = some z → gP p l e rm_f_X12_next s m args below meth c E A 3 (MQ below ((gqV E (gW E r shM) z) A) args s mc ms A) (gW E r shM) 249 [(0, .ref (r 200)), (1, iv v34)] [] t39) h (fun  t39 h => ?_) (fun J40 hJ40 h => ?_)
        · refine g_aload_n X dX12_next_249 0 rfl ?_
          refine g_dup X rfl dX12_next_250 ?_
          refine g_getI X fM_2 rfl dX12_next_251 h (fun v41 h => ?_)
          refine g_iconst X dX12_next_254 ?_
          refine g_iadd X dX12_next_255 ?_
          refine g_putI X fM_2w rfl dX12_next_256 h (fun t42 h => ?_)
          refine g_iload_n X dX12_next_259 1 rfl ?_
          refine g_bipush X dX12_next_260 (by decide) ?_
          refine g_join (J := fun jj => ∀ (j43 : Int) (t44 : St), jj j43 t44 = some z → gP p l e rm_f_X12_next s m args below meth c E A 3 (MQ below ((gqV E (gW E r shM) z) A) args s mc ms A) (gW E r shM) 270 [(0, .ref (r 200)), (1, iv v34)] [iv j43] t44) h (fun j43 t44 h => ?_) (fun J45 hJ45 h => ?_)
          · refine g_istore_n (lv' := [(2, iv j43), (0, .ref (r 200)), (1, iv v34)]) X dX12_next_270 rfl (by decide) rfl ?_
            refine g_aload_n X dX12_next_271 1 rfl ?_
            refine g_iload_n X dX12_next_272 2 rfl ?_
            refine g_bipush X dX12_next_273 (by decide) ?_
            refine g_join (J := fun jj => ∀ (j46 : Int) (t47 : St), jj j46 t47 = some z → gP p l e rm_f_X12_next s m args below meth c E A 3 (MQ below ((gqV E (gW E r shM) z) A) args s mc ms A) (gW E r shM) 286 [(0, .ref (r 200)), (1, iv v34), (2, iv j43)] [iv j46, .ref (r 200)] t47) h (fun j46 t47 h => ?_) (fun J48 hJ48 h => ?_)
            · refine g_putI X fM_5w rfl dX12_next_286 h (fun t49 h => ?_)
              refine g_sub (lv' := [(0, .ref (r 200)), (1, iv v34), (2, iv j43)]) [0, 1, 2] rfl (t_f_X12_next_L289 X (fun k70 t71 h => ?_) N j43 t49 h)
              · refine g_aload_n X dX12_next_355 0 rfl ?_
                refine g_iload_n X dX12_next_356 2 rfl ?_
                refine g_iconst X dX12_next_357 ?_
                refine g_iconst X dX12_next_358 ?_
                refine g_callsI (rest := [.ref (r 200)]) X (fun u9 h9 => cp_X12_in l E r N k70 1 5 t71 u9 h9) yy_X12_in wdT_X12_in wdM_RX12_227 rfl rfl (Nat.le_of_ble_eq_true rfl) dX12_next_359 ⟨by decide, by decide⟩ ⟨rfl, rfl⟩ h (fun v73 t72 h => ?_)
                refine g_join (J := fun jj => ∀ (j74 : Int) (t75 : St), jj j74 t75 = some z → gP p l e rm_f_X12_next s m args below meth c E A 3 (MQ below ((gqV E (gW E r shM) z) A) args s mc ms A) (gW E r shM) 370 [(0, .ref (r 200)), (1, iv v34)] [iv j74, .ref (r 200)] t75) h (fun j74 t75 h => ?_) (fun J76 hJ76 h => ?_)
                · refine g_putI X fM_3w rfl dX12_next_370 h (fun t77 h => ?_)
                  refine g_aload_n X dX12_next_373 0 rfl ?_
                  refine g_iload_n X dX12_next_374 1 rfl ?_
                  refine g_bipush X dX12_next_375 (by decide) ?_
                  refine g_icmp_ne (tgt := 388) X dX12_next_377 (by decide) h (fun h => ?_) (fun h => ?_)
                  · refine g_aload_n X dX12_next_388 0 rfl ?_
                    refine g_getI X fM_5 rfl dX12_next_389 h (fun v78 h => ?_)
                    refine g_putI X fM_5w rfl dX12_next_392 h (fun t79 h => ?_)
                    refine g_goto (tgt := 480) X dX12_next_395 (by decide) ?_
                    exact g_vret X h dX12_next_480
                  · refine g_aload_n X dX12_next_380 0 rfl ?_
                    refine g_getI X fM_5 rfl dX12_next_381 h (fun v80 h => ?_)
                    refine g_ineg X dX12_next_384 ?_
                    refine g_goto (tgt := 392) X dX12_next_385 (by decide) ?_
                    refine g_putI X fM_5w rfl dX12_next_392 h (fun t81 h => ?_)
                    refine g_goto (tgt := 480) X dX12_next_395 (by decide) ?_
                    exact g_vret X h dX12_next_480
                refine g_if_eq (tgt := 369) X dX12_next_362 (by decide) h (fun h => ?_) (fun h => ?_)
                · refine g_iconst X dX12_next_369 ?_
                  exact g_sub (lv' := [(0, .ref (r 200)), (1, iv v34)]) [0, 1] rfl (hJ76 5 t72 h)
                · refine g_iconst X dX12_next_365 ?_
                  refine g_goto (tgt := 370) X dX12_next_366 (by decide) ?_
                  exact g_sub (lv' := [(0, .ref (r 200)), (1, iv v34)]) [0, 1] rfl (hJ76 3 t72 h)
            refine g_icmp_ne (tgt := 282) X dX12_next_275 (by decide) h (fun h => ?_) (fun h => ?_)
            · refine g_iload_n X dX12_next_282 2 rfl ?_
              refine g_bipush X dX12_next_283 (by decide) ?_
              refine g_isub X dX12_next_285 ?_
              exact g_sub (lv' := [(0, .ref (r 200)), (1, iv v34), (2, iv j43)]) [1, 2, 0] rfl (hJ48 (v34 - 48) t44 h)
            · refine g_iconst X dX12_next_278 ?_
              refine g_goto (tgt := 286) X dX12_next_279 (by decide) ?_
              exact g_sub (lv' := [(0, .ref (r 200)), (1, iv v34), (2, iv j43)]) [1, 2, 0] rfl (hJ48 0 t44 h)
          refine g_icmp_ne (tgt := 269) X dX12_next_262 (by decide) h (fun h => ?_) (fun h => ?_)
          · refine g_iconst X dX12_next_269 ?_
            exact g_sub (lv' := [(0, .ref (r 200)), (1, iv v34)]) [0, 1] rfl (hJ45 1 t42 h)
          · refine g_iconst X dX12_next_265 ?_
            refine g_goto (tgt := 270) X dX12_next_266 (by decide) ?_
            exact g_sub (lv' := [(0, .ref (r 200)), (1, iv v34)]) [0, 1] rfl (hJ45 0 t42 h)
        refine g_if_ne (tgt := 249) X dX12_next_240 (by decide) h (fun h => ?_) (fun h => ?_)
        · exact g_sub (lv' := [(0, .ref (r 200)), (1, iv v34)]) [1, 0] rfl (hJ40 t37 h)
        · refine g_iload_n X dX12_next_243 0 rfl ?_
          refine g_bipush X dX12_next_244 (by decide) ?_
          refine g_icmp_ne (tgt := 398) X dX12_next_246 (by decide) h (fun h => ?_) (fun h => ?_)
          · refine g_aload_n X dX12_next_398 1 rfl ?_
            refine g_dup X rfl dX12_next_399 ?_
            refine g_getI X fM_2 rfl dX12_next_400 h (fun v82 h => ?_)
            refine g_iconst X dX12_next_403 ?_
            refine g_iadd X dX12_next_404 ?_
            refine g_putI X fM_2w rfl dX12_next_405 h (fun t83 h => ?_)
            refine g_aload_n X dX12_next_408 1 rfl ?_
            refine g_iload_n X dX12_next_409 0 rfl ?_
            refine g_putI X fM_5w rfl dX12_next_410 h (fun t84 h => ?_)
            refine g_iload_n X dX12_next_413 0 rfl ?_
            refine g_bipush X dX12_next_414 (by decide) ?_
            refine g_join (J := fun jj => ∀ (j85 : Int) (t86 : St), jj j85 t86 = some z → gP p l e rm_f_X12_next s m args below meth c E A 3 (MQ below ((gqV E (gW E r shM) z) A) args s mc ms A) (gW E r shM) 466 [(0, .ref (r 200))] [iv j85] t86) h (fun j85 t86 h => ?_) (fun J87 hJ87 h => ?_)
            · refine g_istore_n (lv' := [(2, iv j85), (0, .ref (r 200))]) X dX12_next_466 rfl (by decide) rfl ?_
              refine g_aload_n X dX12_next_467 1 rfl ?_
              refine g_iload_n X dX12_next_468 0 rfl ?_
              refine g_if_eq (tgt := 476) X dX12_next_469 (by decide) h (fun h => ?_) (fun h => ?_)
              · refine g_iconst X dX12_next_476 ?_
                refine g_putI X fM_3w rfl dX12_next_477 h (fun t88 h => ?_)
                exact g_vret X h dX12_next_480
              · refine g_iconst X dX12_next_472 ?_
                refine g_goto (tgt := 477) X dX12_next_473 (by decide) ?_
                refine g_putI X fM_3w rfl dX12_next_477 h (fun t89 h => ?_)
                exact g_vret X h dX12_next_480
            refine g_join (J := fun jj => ∀ (t90 : St), jj  t90 = some z → gP p l e rm_f_X12_next s m args below meth c E A 3 (MQ below ((gqV E (gW E r shM) z) A) args s mc ms A) (gW E r shM) 461 [(0, .ref (r 200))] [] t90) h (fun  t90 h => ?_) (fun J91 hJ91 h => ?_)
            · refine g_iconst X dX12_next_461 ?_
              refine g_goto (tgt := 466) X dX12_next_462 (by decide) ?_
              exact g_sub (lv' := [(0, .ref (r 200))]) [0] rfl (hJ87 1 t90 h)
            refine g_icmp_eq (tgt := 461) X dX12_next_416 (by decide) h (fun h => ?_) (fun h => ?_)
            · exact g_sub (lv' := [(0, .ref (r 200))]) [1] rfl (hJ91 t84 h)
            · refine g_iload_n X dX12_next_419 0 rfl ?_
              refine g_bipush X dX12_next_420 (by decide) ?_
              refine g_icmp_eq (tgt := 461) X dX12_next_422 (by decide) h (fun h => ?_) (fun h => ?_)
              · exact g_sub (lv' := [(0, .ref (r 200))]) [1] rfl (hJ91 t84 h)
              · refine g_iload_n X dX12_next_425 0 rfl ?_
                refine g_bipush X dX12_next_426 (by decide) ?_
                refine g_icmp_eq (tgt := 461) X dX12_next_428 (by decide) h (fun h => ?_) (fun h => ?_)
                · exact g_sub (lv' := [(0, .ref (r 200))]) [1] rfl (hJ91 t84 h)
                · refine g_iload_n X dX12_next_431 0 rfl ?_
                  refine g_bipush X dX12_next_432 (by decide) ?_
                  refine g_icmp_eq (tgt := 461) X dX12_next_434 (by decide) h (fun h => ?_) (fun h => ?_)
                  · exact g_sub (lv' := [(0, .ref (r 200))]) [1] rfl (hJ91 t84 h)
                  · refine g_iload_n X dX12_next_437 0 rfl ?_
                    refine g_bipush X dX12_next_438 (by decide) ?_
                    refine g_icmp_eq (tgt := 461) X dX12_next_440 (by decide) h (fun h => ?_) (fun h => ?_)
                    · exact g_sub (lv' := [(0, .ref (r 200))]) [1] rfl (hJ91 t84 h)
                    · refine g_iload_n X dX12_next_443 0 rfl ?_
                      refine g_bipush X dX12_next_444 (by decide) ?_
                      refine g_icmp_eq (tgt := 461) X dX12_next_446 (by decide) h (fun h => ?_) (fun h => ?_)
                      · exact g_sub (lv' := [(0, .ref (r 200))]) [1] rfl (hJ91 t84 h)
                      · refine g_iload_n X dX12_next_449 0 rfl ?_
                        refine g_bipush X dX12_next_450 (by decide) ?_
                        refine g_icmp_eq (tgt := 461) X dX12_next_452 (by decide) h (fun h => ?_) (fun h => ?_)
                        · exact g_sub (lv' := [(0, .ref (r 200))]) [1] rfl (hJ91 t84 h)
                        · refine g_iload_n X dX12_next_455 0 rfl ?_
                          refine g_bipush X dX12_next_456 (by decide) ?_
                          refine g_icmp_ne (tgt := 465) X dX12_next_458 (by decide) h (fun h => ?_) (fun h => ?_)
                          · refine g_iconst X dX12_next_465 ?_
                            exact g_sub (lv' := [(0, .ref (r 200))]) [1] rfl (hJ87 0 t84 h)
                          · exact g_sub (lv' := [(0, .ref (r 200))]) [1] rfl (hJ91 t84 h)
          · exact g_sub (lv' := [(0, .ref (r 200)), (1, iv v34)]) [1, 0] rfl (hJ40 t37 h)
      · refine g_sub (lv' := [(0, .ref (r 200))]) [1] rfl (t_f_X12_next_L128 X (fun t111 h => ?_) N t35 h)
        · refine g_aload_n X dX12_next_182 0 rfl ?_
          refine g_aload_n X dX12_next_183 0 rfl ?_
          refine g_getI X fM_2 rfl dX12_next_184 h (fun v112 h => ?_)
          refine g_aload_n X dX12_next_187 0 rfl ?_
          refine g_getI X fM_4 rfl dX12_next_188 h (fun v113 h => ?_)
          refine g_isub X dX12_next_191 ?_
          refine g_putI X fM_6w rfl dX12_next_192 h (fun t114 h => ?_)
          refine g_aload_n X dX12_next_195 0 rfl ?_
          refine g_aload_n X dX12_next_196 0 rfl ?_
          refine g_callI (rest := [.ref (r 200)]) X (fun u9 h9 => cp_X12_keyAt l E r N t114 u9 h9) yy_X12_keyAt yi_X12_keyAt wdM_RX12_290 0 12 (gW_at oM) rfl rfl rfl (Nat.le_of_ble_eq_true rfl) dX12_next_197 ⟨by decide, by decide⟩ ⟨rfl, rfl⟩ h (fun v116 t115 h => ?_)
          refine g_putI X fM_5w rfl dX12_next_200 h (fun t117 h => ?_)
          refine g_aload_n X dX12_next_203 0 rfl ?_
          refine g_aload_n X dX12_next_204 0 rfl ?_
          refine g_getI X fM_6 rfl dX12_next_205 h (fun v118 h => ?_)
          refine g_bipush X dX12_next_208 (by decide) ?_
          refine g_icmp_le (tgt := 217) X dX12_next_210 (by decide) h (fun h => ?_) (fun h => ?_)
          · refine g_aload_n X dX12_next_217 0 rfl ?_
            refine g_getI X fM_5 rfl dX12_next_218 h (fun v119 h => ?_)
            refine g_iconst X dX12_next_221 ?_
            refine g_icmp_ne (tgt := 229) X dX12_next_222 (by decide) h (fun h => ?_) (fun h => ?_)
            · refine g_iconst X dX12_next_229 ?_
              refine g_putI X fM_3w rfl dX12_next_230 h (fun t120 h => ?_)
              refine g_goto (tgt := 480) X dX12_next_233 (by decide) ?_
              exact g_vret X h dX12_next_480
            · refine g_iconst X dX12_next_225 ?_
              refine g_goto (tgt := 230) X dX12_next_226 (by decide) ?_
              refine g_putI X fM_3w rfl dX12_next_230 h (fun t121 h => ?_)
              refine g_goto (tgt := 480) X dX12_next_233 (by decide) ?_
              exact g_vret X h dX12_next_480
          · refine g_iconst X dX12_next_213 ?_
            refine g_goto (tgt := 230) X dX12_next_214 (by decide) ?_
            refine g_putI X fM_3w rfl dX12_next_230 h (fun t122 h => ?_)
            refine g_goto (tgt := 480) X dX12_next_233 (by decide) ?_
            exact g_vret X h dX12_next_480
    · refine g_aload_n X dX12_next_113 1 rfl ?_
      refine g_iconst X dX12_next_114 ?_
      refine g_putI X fM_3w rfl dX12_next_115 h (fun t123 h => ?_)
      refine g_goto (tgt := 480) X dX12_next_118 (by decide) ?_
      exact g_vret X h dX12_next_480
set_option maxHeartbeats 4000000 in
set_option maxRecDepth 100000 in
theorem cp_X12_next (l : Launch) (E : cE) (r : Nat → Nat) (N : Nat) (t : St) (z : St) (h : f_X12_next N t = some z) : cM l E yX12_next cX12_next 3 none rm_f_X12_next [.ref (r 200)] (gW E r shM t) (gqV E (gW E r shM) z) := by
  refine g_of (w := gW E r shM) (by decide) (Nat.le_of_ble_eq_true rfl) ?_
  intro p e s m below meth c A X
  exact g_sub (lv' := [(0, .ref (r 200))]) [0] rfl (b_f_X12_next X h)
theorem yy_X12_next : cY yX12_next cX12_next 3 none 0 := ⟨wdK_X12_next, wdZ_RX12, by decide +kernel⟩
theorem yi_X12_next : cYi yX12_next := ⟨wdN_X12_next, wdS_X12_next⟩
theorem dX12_takes_0 : decode cX12_takes 0 = .ok (.aload_n 0, 1) := by decide +kernel
theorem dX12_takes_1 : decode cX12_takes 1 = .ok (.getfield 311, 3) := by decide +kernel
theorem dX12_takes_4 : decode cX12_takes 4 = .ok (.iconst 1, 1) := by decide +kernel
theorem dX12_takes_5 : decode cX12_takes 5 = .ok (.if_icmp .ne 42, 3) := by decide +kernel
theorem dX12_takes_8 : decode cX12_takes 8 = .ok (.aload_n 0, 1) := by decide +kernel
theorem dX12_takes_9 : decode cX12_takes 9 = .ok (.getfield 314, 3) := by decide +kernel
theorem dX12_takes_12 : decode cX12_takes 12 = .ok (.sipush 6000, 3) := by decide +kernel
theorem dX12_takes_15 : decode cX12_takes 15 = .ok (.if_icmp .ne 9, 3) := by decide +kernel
theorem dX12_takes_18 : decode cX12_takes 18 = .ok (.aload_n 0, 1) := by decide +kernel
theorem dX12_takes_19 : decode cX12_takes 19 = .ok (.iconst 5, 1) := by decide +kernel
theorem dX12_takes_20 : decode cX12_takes 20 = .ok (.invokevirtual 317, 3) := by decide +kernel
theorem dX12_takes_23 : decode cX12_takes 23 = .ok (.ireturn, 1) := by decide +kernel
theorem dX12_takes_24 : decode cX12_takes 24 = .ok (.aload_n 0, 1) := by decide +kernel
theorem dX12_takes_25 : decode cX12_takes 25 = .ok (.getfield 65, 3) := by decide +kernel
theorem dX12_takes_28 : decode cX12_takes 28 = .ok (.aload_n 0, 1) := by decide +kernel
theorem dX12_takes_29 : decode cX12_takes 29 = .ok (.getfield 314, 3) := by decide +kernel
theorem dX12_takes_32 : decode cX12_takes 32 = .ok (.iload_n 1, 1) := by decide +kernel
theorem dX12_takes_33 : decode cX12_takes 33 = .ok (.iastore, 1) := by decide +kernel
theorem dX12_takes_34 : decode cX12_takes 34 = .ok (.aload_n 0, 1) := by decide +kernel
theorem dX12_takes_35 : decode cX12_takes 35 = .ok (.dup, 1) := by decide +kernel
theorem dX12_takes_36 : decode cX12_takes 36 = .ok (.getfield 314, 3) := by decide +kernel
theorem dX12_takes_39 : decode cX12_takes 39 = .ok (.iconst 1, 1) := by decide +kernel
theorem dX12_takes_40 : decode cX12_takes 40 = .ok (.iadd, 1) := by decide +kernel
theorem dX12_takes_41 : decode cX12_takes 41 = .ok (.putfield 314, 3) := by decide +kernel
theorem dX12_takes_44 : decode cX12_takes 44 = .ok (.goto 35, 3) := by decide +kernel
theorem dX12_takes_47 : decode cX12_takes 47 = .ok (.aload_n 0, 1) := by decide +kernel
theorem dX12_takes_48 : decode cX12_takes 48 = .ok (.getfield 311, 3) := by decide +kernel
theorem dX12_takes_51 : decode cX12_takes 51 = .ok (.iconst 2, 1) := by decide +kernel
theorem dX12_takes_52 : decode cX12_takes 52 = .ok (.if_icmp .ne 27, 3) := by decide +kernel
theorem dX12_takes_55 : decode cX12_takes 55 = .ok (.aload_n 0, 1) := by decide +kernel
theorem dX12_takes_56 : decode cX12_takes 56 = .ok (.getfield 65, 3) := by decide +kernel
theorem dX12_takes_59 : decode cX12_takes 59 = .ok (.sipush 6000, 3) := by decide +kernel
theorem dX12_takes_62 : decode cX12_takes 62 = .ok (.aload_n 0, 1) := by decide +kernel
theorem dX12_takes_63 : decode cX12_takes 63 = .ok (.getfield 320, 3) := by decide +kernel
theorem dX12_takes_66 : decode cX12_takes 66 = .ok (.iadd, 1) := by decide +kernel
theorem dX12_takes_67 : decode cX12_takes 67 = .ok (.iload_n 1, 1) := by decide +kernel
theorem dX12_takes_68 : decode cX12_takes 68 = .ok (.iastore, 1) := by decide +kernel
theorem dX12_takes_69 : decode cX12_takes 69 = .ok (.aload_n 0, 1) := by decide +kernel
theorem dX12_takes_70 : decode cX12_takes 70 = .ok (.dup, 1) := by decide +kernel
theorem dX12_takes_71 : decode cX12_takes 71 = .ok (.getfield 320, 3) := by decide +kernel
theorem dX12_takes_74 : decode cX12_takes 74 = .ok (.iconst 1, 1) := by decide +kernel
theorem dX12_takes_75 : decode cX12_takes 75 = .ok (.iadd, 1) := by decide +kernel
theorem dX12_takes_76 : decode cX12_takes 76 = .ok (.putfield 320, 3) := by decide +kernel
theorem dX12_takes_79 : decode cX12_takes 79 = .ok (.aload_n 0, 1) := by decide +kernel
theorem dX12_takes_80 : decode cX12_takes 80 = .ok (.invokevirtual 323, 3) := by decide +kernel
theorem dX12_takes_83 : decode cX12_takes 83 = .ok (.iconst 1, 1) := by decide +kernel
theorem dX12_takes_84 : decode cX12_takes 84 = .ok (.ireturn, 1) := by decide +kernel
abbrev rm_f_X12_takes : Room := { frames := 8, cells := 0, slots := 0, locals := 247 }
def f_X12_takes (N : Nat) (a0 : Int) (t : St) : Option (Int × St) :=
    lt1 (t.1 200 36) fun v1 =>
    jn1 (fun (t2 : St) => bdV (f_X12_next N t2) fun t4 =>
    boI 1 (some (1, t4))) fun J3 =>
    cmpI v1 1 (if v1 = 1 then (lt1 (t.1 200 33) fun v10 =>
    cmpI v10 6000 (if v10 = 6000 then (bdI (f_X12_wrong N 5 t) fun v16 t15 =>
    boI v16 (some (v16, t15)))
    else (lt1 (t.1 200 33) fun v11 =>
    ixI v11 10100 (lt1 (pI t 31 v11.toNat a0) fun t12 =>
    lt1 (t12.1 200 33) fun v13 =>
    lt1 (pI t12 200 33 (v13 + 1)) fun t14 =>
    J3 t14))))
    else (lt1 (t.1 200 36) fun v5 =>
    cmpI v5 2 (if v5 = 2 then (lt1 (t.1 200 34) fun v6 =>
    ixI (6000 + v6) 10100 (lt1 (pI t 31 (6000 + v6).toNat a0) fun t7 =>
    lt1 (t7.1 200 34) fun v8 =>
    lt1 (pI t7 200 34 (v8 + 1)) fun t9 =>
    J3 t9))
    else (J3 t))))
set_option maxHeartbeats 4000000 in
set_option maxRecDepth 100000 in
theorem b_f_X12_takes {p : Program} {l : Launch} {e : Env} {s : State} {m : MethodId} {args : Array Value} {below : List Frame} {meth : Method} {c : Code} {E : cE} {A : Nat → Prop} {r : Nat → Nat} {mc ms : Nat} {z : Int × St} {N : Nat} {a0 : Int} {t : St} (X : gX p s m meth c cX12_takes 2 (some .boolean) yX12_takes args E A) (h : f_X12_takes N a0 t = some z) : gP p l e rm_f_X12_takes s m args below meth c E A 2 (MQ below ((gqI E (gW E r shM) z) A) args s mc ms A) (gW E r shM) 0 [(0, .ref (r 200)), (1, iv a0)] [] t := by
  unfold f_X12_takes at h
  refine g_aload_n X dX12_takes_0 0 rfl ?_
  refine g_getI X fM_36 rfl dX12_takes_1 h (fun v1 h => ?_)
  refine g_iconst X dX12_takes_4 ?_
  refine g_join (J := fun jj => ∀ (t2 : St), jj  t2 = some z → gP p l e rm_f_X12_takes s m args below meth c E A 2 (MQ below ((gqI E (gW E r shM) z) A) args s mc ms A) (gW E r shM) 79 [(0, .ref (r 200))] [] t2) h (fun  t2 h => ?_) (fun J3 hJ3 h => ?_)
  · refine g_aload_n X dX12_takes_79 0 rfl ?_
    refine g_callV (rest := []) X (fun u9 h9 => cp_X12_next l E r N t2 u9 h9) yy_X12_next yi_X12_next wdM_RX12_323 0 12 (gW_at oM) rfl rfl rfl (Nat.le_of_ble_eq_true rfl) dX12_takes_80 ⟨by decide, by decide⟩ ⟨rfl, rfl⟩ h (fun t4 h => ?_)
    refine g_iconst X dX12_takes_83 ?_
    exact g_zret X h dX12_takes_84
  refine g_icmp_ne (tgt := 47) X dX12_takes_5 (by decide) h (fun h => ?_) (fun h => ?_)
  · refine g_aload_n X dX12_takes_47 0 rfl ?_
    refine g_getI X fM_36 rfl dX12_takes_48 h (fun v5 h => ?_)
    refine g_iconst X dX12_takes_51 ?_
    refine g_icmp_ne (tgt := 79) X dX12_takes_52 (by decide) h (fun h => ?_) (fun h => ?_)
    · exact g_sub (lv' := [(0, .ref (r 200))]) [0] rfl (hJ3 t h)
    · refine g_aload_n X dX12_takes_55 0 rfl ?_
      refine g_getR X fM_31 rfl dX12_takes_56 ?_
      refine g_sipush X dX12_takes_59 (by decide) ?_
      refine g_aload_n X dX12_takes_62 0 rfl ?_
      refine g_getI X fM_34 rfl dX12_takes_63 h (fun v6 h => ?_)
      refine g_iadd X dX12_takes_66 ?_
      refine g_iload_n X dX12_takes_67 1 rfl ?_
      refine g_iast X aM_31 dX12_takes_68 h (fun t7 h => ?_)
      refine g_aload_n X dX12_takes_69 0 rfl ?_
      refine g_dup X rfl dX12_takes_70 ?_
      refine g_getI X fM_34 rfl dX12_takes_71 h (fun v8 h => ?_)
      refine g_iconst X dX12_takes_74 ?_
      refine g_iadd X dX12_takes_75 ?_
      refine g_putI X fM_34w rfl dX12_takes_76 h (fun t9 h => ?_)
      exact g_sub (lv' := [(0, .ref (r 200))]) [0] rfl (hJ3 t9 h)
  · refine g_aload_n X dX12_takes_8 0 rfl ?_
    refine g_getI X fM_33 rfl dX12_takes_9 h (fun v10 h => ?_)
    refine g_sipush X dX12_takes_12 (by decide) ?_
    refine g_icmp_ne (tgt := 24) X dX12_takes_15 (by decide) h (fun h => ?_) (fun h => ?_)
    · refine g_aload_n X dX12_takes_24 0 rfl ?_
      refine g_getR X fM_31 rfl dX12_takes_25 ?_
      refine g_aload_n X dX12_takes_28 0 rfl ?_
      refine g_getI X fM_33 rfl dX12_takes_29 h (fun v11 h => ?_)
      refine g_iload_n X dX12_takes_32 1 rfl ?_
      refine g_iast X aM_31 dX12_takes_33 h (fun t12 h => ?_)
      refine g_aload_n X dX12_takes_34 0 rfl ?_
      refine g_dup X rfl dX12_takes_35 ?_
      refine g_getI X fM_33 rfl dX12_takes_36 h (fun v13 h => ?_)
      refine g_iconst X dX12_takes_39 ?_
      refine g_iadd X dX12_takes_40 ?_
      refine g_putI X fM_33w rfl dX12_takes_41 h (fun t14 h => ?_)
      refine g_goto (tgt := 79) X dX12_takes_44 (by decide) ?_
      exact g_sub (lv' := [(0, .ref (r 200))]) [0] rfl (hJ3 t14 h)
    · refine g_aload_n X dX12_takes_18 0 rfl ?_
      refine g_iconst X dX12_takes_19 ?_
      refine g_callI (rest := []) X (fun u9 h9 => cp_X12_wrong l E r N 5 t u9 h9) yy_X12_wrong yi_X12_wrong wdM_RX12_317 0 12 (gW_at oM) rfl rfl rfl (Nat.le_of_ble_eq_true rfl) dX12_takes_20 ⟨by decide, by decide⟩ ⟨rfl, rfl⟩ h (fun v16 t15 h => ?_)
      exact g_zret X h dX12_takes_23
set_option maxHeartbeats 4000000 in
set_option maxRecDepth 100000 in
theorem cp_X12_takes (l : Launch) (E : cE) (r : Nat → Nat) (N : Nat) (a0 : Int) (t : St) (z : Int × St) (h : f_X12_takes N a0 t = some z) : cM l E yX12_takes cX12_takes 2 (some .boolean) rm_f_X12_takes [.ref (r 200), iv a0] (gW E r shM t) (gqI E (gW E r shM) z) := by
  refine g_of (w := gW E r shM) (by decide) (Nat.le_of_ble_eq_true rfl) ?_
  intro p e s m below meth c A X
  exact g_sub (lv' := [(0, .ref (r 200)), (1, iv a0)]) [0, 1] rfl (b_f_X12_takes X h)
theorem yy_X12_takes : cY yX12_takes cX12_takes 2 (some .boolean) 1 := ⟨wdK_X12_takes, wdZ_RX12, by decide +kernel⟩
theorem yi_X12_takes : cYi yX12_takes := ⟨wdN_X12_takes, wdS_X12_takes⟩
theorem dX12_key_0 : decode cX12_key 0 = .ok (.aload_n 0, 1) := by decide +kernel
theorem dX12_key_1 : decode cX12_key 1 = .ok (.iload_n 1, 1) := by decide +kernel
theorem dX12_key_2 : decode cX12_key 2 = .ok (.invokevirtual 326, 3) := by decide +kernel
theorem dX12_key_5 : decode cX12_key 5 = .ok (.ifCond .eq 11, 3) := by decide +kernel
theorem dX12_key_8 : decode cX12_key 8 = .ok (.aload_n 0, 1) := by decide +kernel
theorem dX12_key_9 : decode cX12_key 9 = .ok (.iload_n 1, 1) := by decide +kernel
theorem dX12_key_10 : decode cX12_key 10 = .ok (.invokevirtual 329, 3) := by decide +kernel
theorem dX12_key_13 : decode cX12_key 13 = .ok (.goto 8, 3) := by decide +kernel
theorem dX12_key_16 : decode cX12_key 16 = .ok (.aload_n 0, 1) := by decide +kernel
theorem dX12_key_17 : decode cX12_key 17 = .ok (.iconst 1, 1) := by decide +kernel
theorem dX12_key_18 : decode cX12_key 18 = .ok (.invokevirtual 317, 3) := by decide +kernel
theorem dX12_key_21 : decode cX12_key 21 = .ok (.ireturn, 1) := by decide +kernel
abbrev rm_f_X12_key : Room := { frames := 9, cells := 0, slots := 0, locals := 268 }
def f_X12_key (N : Nat) (a0 : Int) (t : St) : Option (Int × St) :=
    bdI (f_X12_isKey N a0 t) fun v2 t1 =>
    cmpI v2 0 (if v2 = 0 then (bdI (f_X12_wrong N 1 t1) fun v4 t3 =>
    boI v4 (some (v4, t3)))
    else (bdI (f_X12_takes N a0 t1) fun v6 t5 =>
    boI v6 (some (v6, t5))))
set_option maxHeartbeats 4000000 in
set_option maxRecDepth 100000 in
theorem b_f_X12_key {p : Program} {l : Launch} {e : Env} {s : State} {m : MethodId} {args : Array Value} {below : List Frame} {meth : Method} {c : Code} {E : cE} {A : Nat → Prop} {r : Nat → Nat} {mc ms : Nat} {z : Int × St} {N : Nat} {a0 : Int} {t : St} (X : gX p s m meth c cX12_key 2 (some .boolean) yX12_key args E A) (h : f_X12_key N a0 t = some z) : gP p l e rm_f_X12_key s m args below meth c E A 2 (MQ below ((gqI E (gW E r shM) z) A) args s mc ms A) (gW E r shM) 0 [(0, .ref (r 200)), (1, iv a0)] [] t := by
  unfold f_X12_key at h
  refine g_aload_n X dX12_key_0 0 rfl ?_
  refine g_iload_n X dX12_key_1 1 rfl ?_
  refine g_callI (rest := []) X (fun u9 h9 => cp_X12_isKey l E r N a0 t u9 h9) yy_X12_isKey yi_X12_isKey wdM_RX12_326 0 12 (gW_at oM) rfl rfl rfl (Nat.le_of_ble_eq_true rfl) dX12_key_2 ⟨by decide, by decide⟩ ⟨rfl, rfl⟩ h (fun v2 t1 h => ?_)
  refine g_if_eq (tgt := 16) X dX12_key_5 (by decide) h (fun h => ?_) (fun h => ?_)
  · refine g_aload_n X dX12_key_16 0 rfl ?_
    refine g_iconst X dX12_key_17 ?_
    refine g_callI (rest := []) X (fun u9 h9 => cp_X12_wrong l E r N 1 t1 u9 h9) yy_X12_wrong yi_X12_wrong wdM_RX12_317 0 12 (gW_at oM) rfl rfl rfl (Nat.le_of_ble_eq_true rfl) dX12_key_18 ⟨by decide, by decide⟩ ⟨rfl, rfl⟩ h (fun v4 t3 h => ?_)
    exact g_zret X h dX12_key_21
  · refine g_aload_n X dX12_key_8 0 rfl ?_
    refine g_iload_n X dX12_key_9 1 rfl ?_
    refine g_callI (rest := []) X (fun u9 h9 => cp_X12_takes l E r N a0 t1 u9 h9) yy_X12_takes yi_X12_takes wdM_RX12_329 0 12 (gW_at oM) rfl rfl rfl (Nat.le_of_ble_eq_true rfl) dX12_key_10 ⟨by decide, by decide⟩ ⟨rfl, rfl⟩ h (fun v6 t5 h => ?_)
    refine g_goto (tgt := 21) X dX12_key_13 (by decide) ?_
    exact g_zret X h dX12_key_21
set_option maxHeartbeats 4000000 in
set_option maxRecDepth 100000 in
theorem cp_X12_key (l : Launch) (E : cE) (r : Nat → Nat) (N : Nat) (a0 : Int) (t : St) (z : Int × St) (h : f_X12_key N a0 t = some z) : cM l E yX12_key cX12_key 2 (some .boolean) rm_f_X12_key [.ref (r 200), iv a0] (gW E r shM t) (gqI E (gW E r shM) z) := by
  refine g_of (w := gW E r shM) (by decide) (Nat.le_of_ble_eq_true rfl) ?_
  intro p e s m below meth c A X
  exact g_sub (lv' := [(0, .ref (r 200)), (1, iv a0)]) [0, 1] rfl (b_f_X12_key X h)
theorem yy_X12_key : cY yX12_key cX12_key 2 (some .boolean) 1 := ⟨wdK_X12_key, wdZ_RX12, by decide +kernel⟩
theorem yi_X12_key : cYi yX12_key := ⟨wdN_X12_key, wdS_X12_key⟩
theorem dX12_sign_0 : decode cX12_sign 0 = .ok (.aload_n 0, 1) := by decide +kernel
theorem dX12_sign_1 : decode cX12_sign 1 = .ok (.iload_n 1, 1) := by decide +kernel
theorem dX12_sign_2 : decode cX12_sign 2 = .ok (.invokevirtual 332, 3) := by decide +kernel
theorem dX12_sign_5 : decode cX12_sign 5 = .ok (.ifCond .eq 15, 3) := by decide +kernel
theorem dX12_sign_8 : decode cX12_sign 8 = .ok (.aload_n 0, 1) := by decide +kernel
theorem dX12_sign_9 : decode cX12_sign 9 = .ok (.sipush 5000, 3) := by decide +kernel
theorem dX12_sign_12 : decode cX12_sign 12 = .ok (.iload_n 1, 1) := by decide +kernel
theorem dX12_sign_13 : decode cX12_sign 13 = .ok (.iadd, 1) := by decide +kernel
theorem dX12_sign_14 : decode cX12_sign 14 = .ok (.invokevirtual 329, 3) := by decide +kernel
theorem dX12_sign_17 : decode cX12_sign 17 = .ok (.goto 8, 3) := by decide +kernel
theorem dX12_sign_20 : decode cX12_sign 20 = .ok (.aload_n 0, 1) := by decide +kernel
theorem dX12_sign_21 : decode cX12_sign 21 = .ok (.iconst 1, 1) := by decide +kernel
theorem dX12_sign_22 : decode cX12_sign 22 = .ok (.invokevirtual 317, 3) := by decide +kernel
theorem dX12_sign_25 : decode cX12_sign 25 = .ok (.ireturn, 1) := by decide +kernel
abbrev rm_f_X12_sign : Room := { frames := 9, cells := 0, slots := 0, locals := 268 }
def f_X12_sign (N : Nat) (a0 : Int) (t : St) : Option (Int × St) :=
    bdI (f_X12_isSign N a0 t) fun v2 t1 =>
    cmpI v2 0 (if v2 = 0 then (bdI (f_X12_wrong N 1 t1) fun v4 t3 =>
    boI v4 (some (v4, t3)))
    else (bdI (f_X12_takes N (5000 + a0) t1) fun v6 t5 =>
    boI v6 (some (v6, t5))))
set_option maxHeartbeats 4000000 in
set_option maxRecDepth 100000 in
theorem b_f_X12_sign {p : Program} {l : Launch} {e : Env} {s : State} {m : MethodId} {args : Array Value} {below : List Frame} {meth : Method} {c : Code} {E : cE} {A : Nat → Prop} {r : Nat → Nat} {mc ms : Nat} {z : Int × St} {N : Nat} {a0 : Int} {t : St} (X : gX p s m meth c cX12_sign 2 (some .boolean) yX12_sign args E A) (h : f_X12_sign N a0 t = some z) : gP p l e rm_f_X12_sign s m args below meth c E A 2 (MQ below ((gqI E (gW E r shM) z) A) args s mc ms A) (gW E r shM) 0 [(0, .ref (r 200)), (1, iv a0)] [] t := by
  unfold f_X12_sign at h
  refine g_aload_n X dX12_sign_0 0 rfl ?_
  refine g_iload_n X dX12_sign_1 1 rfl ?_
  refine g_callI (rest := []) X (fun u9 h9 => cp_X12_isSign l E r N a0 t u9 h9) yy_X12_isSign yi_X12_isSign wdM_RX12_332 0 12 (gW_at oM) rfl rfl rfl (Nat.le_of_ble_eq_true rfl) dX12_sign_2 ⟨by decide, by decide⟩ ⟨rfl, rfl⟩ h (fun v2 t1 h => ?_)
  refine g_if_eq (tgt := 20) X dX12_sign_5 (by decide) h (fun h => ?_) (fun h => ?_)
  · refine g_aload_n X dX12_sign_20 0 rfl ?_
    refine g_iconst X dX12_sign_21 ?_
    refine g_callI (rest := []) X (fun u9 h9 => cp_X12_wrong l E r N 1 t1 u9 h9) yy_X12_wrong yi_X12_wrong wdM_RX12_317 0 12 (gW_at oM) rfl rfl rfl (Nat.le_of_ble_eq_true rfl) dX12_sign_22 ⟨by decide, by decide⟩ ⟨rfl, rfl⟩ h (fun v4 t3 h => ?_)
    exact g_zret X h dX12_sign_25
  · refine g_aload_n X dX12_sign_8 0 rfl ?_
    refine g_sipush X dX12_sign_9 (by decide) ?_
    refine g_iload_n X dX12_sign_12 1 rfl ?_
    refine g_iadd X dX12_sign_13 ?_
    refine g_callI (rest := []) X (fun u9 h9 => cp_X12_takes l E r N (5000 + a0) t1 u9 h9) yy_X12_takes yi_X12_takes wdM_RX12_329 0 12 (gW_at oM) rfl rfl rfl (Nat.le_of_ble_eq_true rfl) dX12_sign_14 ⟨by decide, by decide⟩ ⟨rfl, rfl⟩ h (fun v6 t5 h => ?_)
    refine g_goto (tgt := 25) X dX12_sign_17 (by decide) ?_
    exact g_zret X h dX12_sign_25
set_option maxHeartbeats 4000000 in
set_option maxRecDepth 100000 in
theorem cp_X12_sign (l : Launch) (E : cE) (r : Nat → Nat) (N : Nat) (a0 : Int) (t : St) (z : Int × St) (h : f_X12_sign N a0 t = some z) : cM l E yX12_sign cX12_sign 2 (some .boolean) rm_f_X12_sign [.ref (r 200), iv a0] (gW E r shM t) (gqI E (gW E r shM) z) := by
  refine g_of (w := gW E r shM) (by decide) (Nat.le_of_ble_eq_true rfl) ?_
  intro p e s m below meth c A X
  exact g_sub (lv' := [(0, .ref (r 200)), (1, iv a0)]) [0, 1] rfl (b_f_X12_sign X h)
theorem yy_X12_sign : cY yX12_sign cX12_sign 2 (some .boolean) 1 := ⟨wdK_X12_sign, wdZ_RX12, by decide +kernel⟩
theorem yi_X12_sign : cYi yX12_sign := ⟨wdN_X12_sign, wdS_X12_sign⟩
theorem dX12_number_0 : decode cX12_number 0 = .ok (.aload_n 0, 1) := by decide +kernel
theorem dX12_number_1 : decode cX12_number 1 = .ok (.getfield 278, 3) := by decide +kernel
theorem dX12_number_4 : decode cX12_number 4 = .ok (.iconst 3, 1) := by decide +kernel
theorem dX12_number_5 : decode cX12_number 5 = .ok (.if_icmp .eq 9, 3) := by decide +kernel
theorem dX12_number_8 : decode cX12_number 8 = .ok (.aload_n 0, 1) := by decide +kernel
theorem dX12_number_9 : decode cX12_number 9 = .ok (.iconst 1, 1) := by decide +kernel
theorem dX12_number_10 : decode cX12_number 10 = .ok (.invokevirtual 317, 3) := by decide +kernel
theorem dX12_number_13 : decode cX12_number 13 = .ok (.ireturn, 1) := by decide +kernel
theorem dX12_number_14 : decode cX12_number 14 = .ok (.aload_n 0, 1) := by decide +kernel
theorem dX12_number_15 : decode cX12_number 15 = .ok (.getfield 294, 3) := by decide +kernel
theorem dX12_number_18 : decode cX12_number 18 = .ok (.iload_n 1, 1) := by decide +kernel
theorem dX12_number_19 : decode cX12_number 19 = .ok (.iload_n 2, 1) := by decide +kernel
theorem dX12_number_20 : decode cX12_number 20 = .ok (.invokestatic 227, 3) := by decide +kernel
theorem dX12_number_23 : decode cX12_number 23 = .ok (.ifCond .ne 9, 3) := by decide +kernel
theorem dX12_number_26 : decode cX12_number 26 = .ok (.aload_n 0, 1) := by decide +kernel
theorem dX12_number_27 : decode cX12_number 27 = .ok (.iconst 4, 1) := by decide +kernel
theorem dX12_number_28 : decode cX12_number 28 = .ok (.invokevirtual 317, 3) := by decide +kernel
theorem dX12_number_31 : decode cX12_number 31 = .ok (.ireturn, 1) := by decide +kernel
theorem dX12_number_32 : decode cX12_number 32 = .ok (.aload_n 0, 1) := by decide +kernel
theorem dX12_number_33 : decode cX12_number 33 = .ok (.aload_n 0, 1) := by decide +kernel
theorem dX12_number_34 : decode cX12_number 34 = .ok (.getfield 294, 3) := by decide +kernel
theorem dX12_number_37 : decode cX12_number 37 = .ok (.putfield 335, 3) := by decide +kernel
theorem dX12_number_40 : decode cX12_number 40 = .ok (.aload_n 0, 1) := by decide +kernel
theorem dX12_number_41 : decode cX12_number 41 = .ok (.sipush 1000, 3) := by decide +kernel
theorem dX12_number_44 : decode cX12_number 44 = .ok (.aload_n 0, 1) := by decide +kernel
theorem dX12_number_45 : decode cX12_number 45 = .ok (.getfield 294, 3) := by decide +kernel
theorem dX12_number_48 : decode cX12_number 48 = .ok (.iadd, 1) := by decide +kernel
theorem dX12_number_49 : decode cX12_number 49 = .ok (.invokevirtual 329, 3) := by decide +kernel
theorem dX12_number_52 : decode cX12_number 52 = .ok (.ireturn, 1) := by decide +kernel
abbrev rm_f_X12_number : Room := { frames := 9, cells := 0, slots := 0, locals := 268 }
def f_X12_number (N : Nat) (a0 : Int) (a1 : Int) (t : St) : Option (Int × St) :=
    lt1 (t.1 200 3) fun v1 =>
    cmpI v1 3 (if v1 = 3 then (lt1 (t.1 200 5) fun v2 =>
    bdI (f_X12_in N v2 a0 a1 t) fun v4 t3 =>
    cmpI v4 0 (if v4 = 0 then (bdI (f_X12_wrong N 4 t3) fun v11 t10 =>
    boI v11 (some (v11, t10)))
    else (lt1 (t3.1 200 5) fun v5 =>
    lt1 (pI t3 200 110 v5) fun t6 =>
    lt1 (t6.1 200 5) fun v7 =>
    bdI (f_X12_takes N (1000 + v7) t6) fun v9 t8 =>
    boI v9 (some (v9, t8)))))
    else (bdI (f_X12_wrong N 1 t) fun v13 t12 =>
    boI v13 (some (v13, t12))))
set_option maxHeartbeats 4000000 in
set_option maxRecDepth 100000 in
theorem b_f_X12_number {p : Program} {l : Launch} {e : Env} {s : State} {m : MethodId} {args : Array Value} {below : List Frame} {meth : Method} {c : Code} {E : cE} {A : Nat → Prop} {r : Nat → Nat} {mc ms : Nat} {z : Int × St} {N : Nat} {a0 : Int} {a1 : Int} {t : St} (X : gX p s m meth c cX12_number 3 (some .boolean) yX12_number args E A) (h : f_X12_number N a0 a1 t = some z) : gP p l e rm_f_X12_number s m args below meth c E A 3 (MQ below ((gqI E (gW E r shM) z) A) args s mc ms A) (gW E r shM) 0 [(0, .ref (r 200)), (1, iv a0), (2, iv a1)] [] t := by
  unfold f_X12_number at h
  refine g_aload_n X dX12_number_0 0 rfl ?_
  refine g_getI X fM_3 rfl dX12_number_1 h (fun v1 h => ?_)
  refine g_iconst X dX12_number_4 ?_
  refine g_icmp_eq (tgt := 14) X dX12_number_5 (by decide) h (fun h => ?_) (fun h => ?_)
  · refine g_aload_n X dX12_number_14 0 rfl ?_
    refine g_getI X fM_5 rfl dX12_number_15 h (fun v2 h => ?_)
    refine g_iload_n X dX12_number_18 1 rfl ?_
    refine g_iload_n X dX12_number_19 2 rfl ?_
    refine g_callsI (rest := []) X (fun u9 h9 => cp_X12_in l E r N v2 a0 a1 t u9 h9) yy_X12_in wdT_X12_in wdM_RX12_227 rfl rfl (Nat.le_of_ble_eq_true rfl) dX12_number_20 ⟨by decide, by decide⟩ ⟨rfl, rfl⟩ h (fun v4 t3 h => ?_)
    refine g_if_ne (tgt := 32) X dX12_number_23 (by decide) h (fun h => ?_) (fun h => ?_)
    · refine g_aload_n X dX12_number_32 0 rfl ?_
      refine g_aload_n X dX12_number_33 0 rfl ?_
      refine g_getI X fM_5 rfl dX12_number_34 h (fun v5 h => ?_)
      refine g_putI X fM_110w rfl dX12_number_37 h (fun t6 h => ?_)
      refine g_aload_n X dX12_number_40 0 rfl ?_
      refine g_sipush X dX12_number_41 (by decide) ?_
      refine g_aload_n X dX12_number_44 0 rfl ?_
      refine g_getI X fM_5 rfl dX12_number_45 h (fun v7 h => ?_)
      refine g_iadd X dX12_number_48 ?_
      refine g_callI (rest := []) X (fun u9 h9 => cp_X12_takes l E r N (1000 + v7) t6 u9 h9) yy_X12_takes yi_X12_takes wdM_RX12_329 0 12 (gW_at oM) rfl rfl rfl (Nat.le_of_ble_eq_true rfl) dX12_number_49 ⟨by decide, by decide⟩ ⟨rfl, rfl⟩ h (fun v9 t8 h => ?_)
      exact g_zret X h dX12_number_52
    · refine g_aload_n X dX12_number_26 0 rfl ?_
      refine g_iconst X dX12_number_27 ?_
      refine g_callI (rest := []) X (fun u9 h9 => cp_X12_wrong l E r N 4 t3 u9 h9) yy_X12_wrong yi_X12_wrong wdM_RX12_317 0 12 (gW_at oM) rfl rfl rfl (Nat.le_of_ble_eq_true rfl) dX12_number_28 ⟨by decide, by decide⟩ ⟨rfl, rfl⟩ h (fun v11 t10 h => ?_)
      exact g_zret X h dX12_number_31
  · refine g_aload_n X dX12_number_8 0 rfl ?_
    refine g_iconst X dX12_number_9 ?_
    refine g_callI (rest := []) X (fun u9 h9 => cp_X12_wrong l E r N 1 t u9 h9) yy_X12_wrong yi_X12_wrong wdM_RX12_317 0 12 (gW_at oM) rfl rfl rfl (Nat.le_of_ble_eq_true rfl) dX12_number_10 ⟨by decide, by decide⟩ ⟨rfl, rfl⟩ h (fun v13 t12 h => ?_)
    exact g_zret X h dX12_number_13
set_option maxHeartbeats 4000000 in
set_option maxRecDepth 100000 in
theorem cp_X12_number (l : Launch) (E : cE) (r : Nat → Nat) (N : Nat) (a0 : Int) (a1 : Int) (t : St) (z : Int × St) (h : f_X12_number N a0 a1 t = some z) : cM l E yX12_number cX12_number 3 (some .boolean) rm_f_X12_number [.ref (r 200), iv a0, iv a1] (gW E r shM t) (gqI E (gW E r shM) z) := by
  refine g_of (w := gW E r shM) (by decide) (Nat.le_of_ble_eq_true rfl) ?_
  intro p e s m below meth c A X
  exact g_sub (lv' := [(0, .ref (r 200)), (1, iv a0), (2, iv a1)]) [0, 1, 2] rfl (b_f_X12_number X h)
theorem yy_X12_number : cY yX12_number cX12_number 3 (some .boolean) 2 := ⟨wdK_X12_number, wdZ_RX12, by decide +kernel⟩
theorem yi_X12_number : cYi yX12_number := ⟨wdN_X12_number, wdS_X12_number⟩
theorem dX12_opens_0 : decode cX12_opens 0 = .ok (.aload_n 0, 1) := by decide +kernel
theorem dX12_opens_1 : decode cX12_opens 1 = .ok (.getfield 338, 3) := by decide +kernel
theorem dX12_opens_4 : decode cX12_opens 4 = .ok (.bipush 30, 2) := by decide +kernel
theorem dX12_opens_6 : decode cX12_opens 6 = .ok (.if_icmp .ne 9, 3) := by decide +kernel
theorem dX12_opens_9 : decode cX12_opens 9 = .ok (.aload_n 0, 1) := by decide +kernel
theorem dX12_opens_10 : decode cX12_opens 10 = .ok (.iconst 5, 1) := by decide +kernel
theorem dX12_opens_11 : decode cX12_opens 11 = .ok (.invokevirtual 317, 3) := by decide +kernel
theorem dX12_opens_14 : decode cX12_opens 14 = .ok (.ireturn, 1) := by decide +kernel
theorem dX12_opens_15 : decode cX12_opens 15 = .ok (.aload_n 0, 1) := by decide +kernel
theorem dX12_opens_16 : decode cX12_opens 16 = .ok (.dup, 1) := by decide +kernel
theorem dX12_opens_17 : decode cX12_opens 17 = .ok (.getfield 338, 3) := by decide +kernel
theorem dX12_opens_20 : decode cX12_opens 20 = .ok (.iconst 1, 1) := by decide +kernel
theorem dX12_opens_21 : decode cX12_opens 21 = .ok (.iadd, 1) := by decide +kernel
theorem dX12_opens_22 : decode cX12_opens 22 = .ok (.putfield 338, 3) := by decide +kernel
theorem dX12_opens_25 : decode cX12_opens 25 = .ok (.aload_n 0, 1) := by decide +kernel
theorem dX12_opens_26 : decode cX12_opens 26 = .ok (.iload_n 1, 1) := by decide +kernel
theorem dX12_opens_27 : decode cX12_opens 27 = .ok (.invokevirtual 329, 3) := by decide +kernel
theorem dX12_opens_30 : decode cX12_opens 30 = .ok (.ireturn, 1) := by decide +kernel
abbrev rm_f_X12_opens : Room := { frames := 9, cells := 0, slots := 0, locals := 268 }
def f_X12_opens (N : Nat) (a0 : Int) (t : St) : Option (Int × St) :=
    lt1 (t.1 200 35) fun v1 =>
    cmpI v1 30 (if v1 = 30 then (bdI (f_X12_wrong N 5 t) fun v7 t6 =>
    boI v7 (some (v7, t6)))
    else (lt1 (t.1 200 35) fun v2 =>
    lt1 (pI t 200 35 (v2 + 1)) fun t3 =>
    bdI (f_X12_takes N a0 t3) fun v5 t4 =>
    boI v5 (some (v5, t4))))
set_option maxHeartbeats 4000000 in
set_option maxRecDepth 100000 in
theorem b_f_X12_opens {p : Program} {l : Launch} {e : Env} {s : State} {m : MethodId} {args : Array Value} {below : List Frame} {meth : Method} {c : Code} {E : cE} {A : Nat → Prop} {r : Nat → Nat} {mc ms : Nat} {z : Int × St} {N : Nat} {a0 : Int} {t : St} (X : gX p s m meth c cX12_opens 2 (some .boolean) yX12_opens args E A) (h : f_X12_opens N a0 t = some z) : gP p l e rm_f_X12_opens s m args below meth c E A 2 (MQ below ((gqI E (gW E r shM) z) A) args s mc ms A) (gW E r shM) 0 [(0, .ref (r 200)), (1, iv a0)] [] t := by
  unfold f_X12_opens at h
  refine g_aload_n X dX12_opens_0 0 rfl ?_
  refine g_getI X fM_35 rfl dX12_opens_1 h (fun v1 h => ?_)
  refine g_bipush X dX12_opens_4 (by decide) ?_
  refine g_icmp_ne (tgt := 15) X dX12_opens_6 (by decide) h (fun h => ?_) (fun h => ?_)
  · refine g_aload_n X dX12_opens_15 0 rfl ?_
    refine g_dup X rfl dX12_opens_16 ?_
    refine g_getI X fM_35 rfl dX12_opens_17 h (fun v2 h => ?_)
    refine g_iconst X dX12_opens_20 ?_
    refine g_iadd X dX12_opens_21 ?_
    refine g_putI X fM_35w rfl dX12_opens_22 h (fun t3 h => ?_)
    refine g_aload_n X dX12_opens_25 0 rfl ?_
    refine g_iload_n X dX12_opens_26 1 rfl ?_
    refine g_callI (rest := []) X (fun u9 h9 => cp_X12_takes l E r N a0 t3 u9 h9) yy_X12_takes yi_X12_takes wdM_RX12_329 0 12 (gW_at oM) rfl rfl rfl (Nat.le_of_ble_eq_true rfl) dX12_opens_27 ⟨by decide, by decide⟩ ⟨rfl, rfl⟩ h (fun v5 t4 h => ?_)
    exact g_zret X h dX12_opens_30
  · refine g_aload_n X dX12_opens_9 0 rfl ?_
    refine g_iconst X dX12_opens_10 ?_
    refine g_callI (rest := []) X (fun u9 h9 => cp_X12_wrong l E r N 5 t u9 h9) yy_X12_wrong yi_X12_wrong wdM_RX12_317 0 12 (gW_at oM) rfl rfl rfl (Nat.le_of_ble_eq_true rfl) dX12_opens_11 ⟨by decide, by decide⟩ ⟨rfl, rfl⟩ h (fun v7 t6 h => ?_)
    exact g_zret X h dX12_opens_14
set_option maxHeartbeats 4000000 in
set_option maxRecDepth 100000 in
theorem cp_X12_opens (l : Launch) (E : cE) (r : Nat → Nat) (N : Nat) (a0 : Int) (t : St) (z : Int × St) (h : f_X12_opens N a0 t = some z) : cM l E yX12_opens cX12_opens 2 (some .boolean) rm_f_X12_opens [.ref (r 200), iv a0] (gW E r shM t) (gqI E (gW E r shM) z) := by
  refine g_of (w := gW E r shM) (by decide) (Nat.le_of_ble_eq_true rfl) ?_
  intro p e s m below meth c A X
  exact g_sub (lv' := [(0, .ref (r 200)), (1, iv a0)]) [0, 1] rfl (b_f_X12_opens X h)
theorem yy_X12_opens : cY yX12_opens cX12_opens 2 (some .boolean) 1 := ⟨wdK_X12_opens, wdZ_RX12, by decide +kernel⟩
theorem yi_X12_opens : cYi yX12_opens := ⟨wdN_X12_opens, wdS_X12_opens⟩
theorem dX12_opensBy_0 : decode cX12_opensBy 0 = .ok (.aload_n 0, 1) := by decide +kernel
theorem dX12_opensBy_1 : decode cX12_opensBy 1 = .ok (.iload_n 1, 1) := by decide +kernel
theorem dX12_opensBy_2 : decode cX12_opensBy 2 = .ok (.invokevirtual 332, 3) := by decide +kernel
theorem dX12_opensBy_5 : decode cX12_opensBy 5 = .ok (.ifCond .eq 15, 3) := by decide +kernel
theorem dX12_opensBy_8 : decode cX12_opensBy 8 = .ok (.aload_n 0, 1) := by decide +kernel
theorem dX12_opensBy_9 : decode cX12_opensBy 9 = .ok (.sipush 5000, 3) := by decide +kernel
theorem dX12_opensBy_12 : decode cX12_opensBy 12 = .ok (.iload_n 1, 1) := by decide +kernel
theorem dX12_opensBy_13 : decode cX12_opensBy 13 = .ok (.iadd, 1) := by decide +kernel
theorem dX12_opensBy_14 : decode cX12_opensBy 14 = .ok (.invokevirtual 341, 3) := by decide +kernel
theorem dX12_opensBy_17 : decode cX12_opensBy 17 = .ok (.goto 8, 3) := by decide +kernel
theorem dX12_opensBy_20 : decode cX12_opensBy 20 = .ok (.aload_n 0, 1) := by decide +kernel
theorem dX12_opensBy_21 : decode cX12_opensBy 21 = .ok (.iconst 1, 1) := by decide +kernel
theorem dX12_opensBy_22 : decode cX12_opensBy 22 = .ok (.invokevirtual 317, 3) := by decide +kernel
theorem dX12_opensBy_25 : decode cX12_opensBy 25 = .ok (.ireturn, 1) := by decide +kernel
abbrev rm_f_X12_opensBy : Room := { frames := 10, cells := 0, slots := 0, locals := 289 }
def f_X12_opensBy (N : Nat) (a0 : Int) (t : St) : Option (Int × St) :=
    bdI (f_X12_isSign N a0 t) fun v2 t1 =>
    cmpI v2 0 (if v2 = 0 then (bdI (f_X12_wrong N 1 t1) fun v4 t3 =>
    boI v4 (some (v4, t3)))
    else (bdI (f_X12_opens N (5000 + a0) t1) fun v6 t5 =>
    boI v6 (some (v6, t5))))
set_option maxHeartbeats 4000000 in
set_option maxRecDepth 100000 in
theorem b_f_X12_opensBy {p : Program} {l : Launch} {e : Env} {s : State} {m : MethodId} {args : Array Value} {below : List Frame} {meth : Method} {c : Code} {E : cE} {A : Nat → Prop} {r : Nat → Nat} {mc ms : Nat} {z : Int × St} {N : Nat} {a0 : Int} {t : St} (X : gX p s m meth c cX12_opensBy 2 (some .boolean) yX12_opensBy args E A) (h : f_X12_opensBy N a0 t = some z) : gP p l e rm_f_X12_opensBy s m args below meth c E A 2 (MQ below ((gqI E (gW E r shM) z) A) args s mc ms A) (gW E r shM) 0 [(0, .ref (r 200)), (1, iv a0)] [] t := by
  unfold f_X12_opensBy at h
  refine g_aload_n X dX12_opensBy_0 0 rfl ?_
  refine g_iload_n X dX12_opensBy_1 1 rfl ?_
  refine g_callI (rest := []) X (fun u9 h9 => cp_X12_isSign l E r N a0 t u9 h9) yy_X12_isSign yi_X12_isSign wdM_RX12_332 0 12 (gW_at oM) rfl rfl rfl (Nat.le_of_ble_eq_true rfl) dX12_opensBy_2 ⟨by decide, by decide⟩ ⟨rfl, rfl⟩ h (fun v2 t1 h => ?_)
  refine g_if_eq (tgt := 20) X dX12_opensBy_5 (by decide) h (fun h => ?_) (fun h => ?_)
  · refine g_aload_n X dX12_opensBy_20 0 rfl ?_
    refine g_iconst X dX12_opensBy_21 ?_
    refine g_callI (rest := []) X (fun u9 h9 => cp_X12_wrong l E r N 1 t1 u9 h9) yy_X12_wrong yi_X12_wrong wdM_RX12_317 0 12 (gW_at oM) rfl rfl rfl (Nat.le_of_ble_eq_true rfl) dX12_opensBy_22 ⟨by decide, by decide⟩ ⟨rfl, rfl⟩ h (fun v4 t3 h => ?_)
    exact g_zret X h dX12_opensBy_25
  · refine g_aload_n X dX12_opensBy_8 0 rfl ?_
    refine g_sipush X dX12_opensBy_9 (by decide) ?_
    refine g_iload_n X dX12_opensBy_12 1 rfl ?_
    refine g_iadd X dX12_opensBy_13 ?_
    refine g_callI (rest := []) X (fun u9 h9 => cp_X12_opens l E r N (5000 + a0) t1 u9 h9) yy_X12_opens yi_X12_opens wdM_RX12_341 0 12 (gW_at oM) rfl rfl rfl (Nat.le_of_ble_eq_true rfl) dX12_opensBy_14 ⟨by decide, by decide⟩ ⟨rfl, rfl⟩ h (fun v6 t5 h => ?_)
    refine g_goto (tgt := 25) X dX12_opensBy_17 (by decide) ?_
    exact g_zret X h dX12_opensBy_25
set_option maxHeartbeats 4000000 in
set_option maxRecDepth 100000 in
theorem cp_X12_opensBy (l : Launch) (E : cE) (r : Nat → Nat) (N : Nat) (a0 : Int) (t : St) (z : Int × St) (h : f_X12_opensBy N a0 t = some z) : cM l E yX12_opensBy cX12_opensBy 2 (some .boolean) rm_f_X12_opensBy [.ref (r 200), iv a0] (gW E r shM t) (gqI E (gW E r shM) z) := by
  refine g_of (w := gW E r shM) (by decide) (Nat.le_of_ble_eq_true rfl) ?_
  intro p e s m below meth c A X
  exact g_sub (lv' := [(0, .ref (r 200)), (1, iv a0)]) [0, 1] rfl (b_f_X12_opensBy X h)
theorem yy_X12_opensBy : cY yX12_opensBy cX12_opensBy 2 (some .boolean) 1 := ⟨wdK_X12_opensBy, wdZ_RX12, by decide +kernel⟩
theorem yi_X12_opensBy : cYi yX12_opensBy := ⟨wdN_X12_opensBy, wdS_X12_opensBy⟩
theorem dX12_closesBy_0 : decode cX12_closesBy 0 = .ok (.aload_n 0, 1) := by decide +kernel
theorem dX12_closesBy_1 : decode cX12_closesBy 1 = .ok (.iload_n 1, 1) := by decide +kernel
theorem dX12_closesBy_2 : decode cX12_closesBy 2 = .ok (.invokevirtual 344, 3) := by decide +kernel
theorem dX12_closesBy_5 : decode cX12_closesBy 5 = .ok (.ifCond .ne 5, 3) := by decide +kernel
theorem dX12_closesBy_8 : decode cX12_closesBy 8 = .ok (.iconst 0, 1) := by decide +kernel
theorem dX12_closesBy_9 : decode cX12_closesBy 9 = .ok (.ireturn, 1) := by decide +kernel
theorem dX12_closesBy_10 : decode cX12_closesBy 10 = .ok (.aload_n 0, 1) := by decide +kernel
theorem dX12_closesBy_11 : decode cX12_closesBy 11 = .ok (.dup, 1) := by decide +kernel
theorem dX12_closesBy_12 : decode cX12_closesBy 12 = .ok (.getfield 338, 3) := by decide +kernel
theorem dX12_closesBy_15 : decode cX12_closesBy 15 = .ok (.iconst 1, 1) := by decide +kernel
theorem dX12_closesBy_16 : decode cX12_closesBy 16 = .ok (.isub, 1) := by decide +kernel
theorem dX12_closesBy_17 : decode cX12_closesBy 17 = .ok (.putfield 338, 3) := by decide +kernel
theorem dX12_closesBy_20 : decode cX12_closesBy 20 = .ok (.iconst 1, 1) := by decide +kernel
theorem dX12_closesBy_21 : decode cX12_closesBy 21 = .ok (.ireturn, 1) := by decide +kernel
abbrev rm_f_X12_closesBy : Room := { frames := 10, cells := 0, slots := 0, locals := 289 }
def f_X12_closesBy (N : Nat) (a0 : Int) (t : St) : Option (Int × St) :=
    bdI (f_X12_sign N a0 t) fun v2 t1 =>
    cmpI v2 0 (if v2 = 0 then (boI 0 (some (0, t1)))
    else (lt1 (t1.1 200 35) fun v3 =>
    lt1 (pI t1 200 35 (v3 - 1)) fun t4 =>
    boI 1 (some (1, t4))))
set_option maxHeartbeats 4000000 in
set_option maxRecDepth 100000 in
theorem b_f_X12_closesBy {p : Program} {l : Launch} {e : Env} {s : State} {m : MethodId} {args : Array Value} {below : List Frame} {meth : Method} {c : Code} {E : cE} {A : Nat → Prop} {r : Nat → Nat} {mc ms : Nat} {z : Int × St} {N : Nat} {a0 : Int} {t : St} (X : gX p s m meth c cX12_closesBy 2 (some .boolean) yX12_closesBy args E A) (h : f_X12_closesBy N a0 t = some z) : gP p l e rm_f_X12_closesBy s m args below meth c E A 2 (MQ below ((gqI E (gW E r shM) z) A) args s mc ms A) (gW E r shM) 0 [(0, .ref (r 200)), (1, iv a0)] [] t := by
  unfold f_X12_closesBy at h
  refine g_aload_n X dX12_closesBy_0 0 rfl ?_
  refine g_iload_n X dX12_closesBy_1 1 rfl ?_
  refine g_callI (rest := []) X (fun u9 h9 => cp_X12_sign l E r N a0 t u9 h9) yy_X12_sign yi_X12_sign wdM_RX12_344 0 12 (gW_at oM) rfl rfl rfl (Nat.le_of_ble_eq_true rfl) dX12_closesBy_2 ⟨by decide, by decide⟩ ⟨rfl, rfl⟩ h (fun v2 t1 h => ?_)
  refine g_if_ne (tgt := 10) X dX12_closesBy_5 (by decide) h (fun h => ?_) (fun h => ?_)
  · refine g_aload_n X dX12_closesBy_10 0 rfl ?_
    refine g_dup X rfl dX12_closesBy_11 ?_
    refine g_getI X fM_35 rfl dX12_closesBy_12 h (fun v3 h => ?_)
    refine g_iconst X dX12_closesBy_15 ?_
    refine g_isub X dX12_closesBy_16 ?_
    refine g_putI X fM_35w rfl dX12_closesBy_17 h (fun t4 h => ?_)
    refine g_iconst X dX12_closesBy_20 ?_
    exact g_zret X h dX12_closesBy_21
  · refine g_iconst X dX12_closesBy_8 ?_
    exact g_zret X h dX12_closesBy_9
set_option maxHeartbeats 4000000 in
set_option maxRecDepth 100000 in
theorem cp_X12_closesBy (l : Launch) (E : cE) (r : Nat → Nat) (N : Nat) (a0 : Int) (t : St) (z : Int × St) (h : f_X12_closesBy N a0 t = some z) : cM l E yX12_closesBy cX12_closesBy 2 (some .boolean) rm_f_X12_closesBy [.ref (r 200), iv a0] (gW E r shM t) (gqI E (gW E r shM) z) := by
  refine g_of (w := gW E r shM) (by decide) (Nat.le_of_ble_eq_true rfl) ?_
  intro p e s m below meth c A X
  exact g_sub (lv' := [(0, .ref (r 200)), (1, iv a0)]) [0, 1] rfl (b_f_X12_closesBy X h)
theorem yy_X12_closesBy : cY yX12_closesBy cX12_closesBy 2 (some .boolean) 1 := ⟨wdK_X12_closesBy, wdZ_RX12, by decide +kernel⟩
theorem yi_X12_closesBy : cYi yX12_closesBy := ⟨wdN_X12_closesBy, wdS_X12_closesBy⟩
theorem dX12_newName_0 : decode cX12_newName 0 = .ok (.aload_n 0, 1) := by decide +kernel
theorem dX12_newName_1 : decode cX12_newName 1 = .ok (.getfield 278, 3) := by decide +kernel
theorem dX12_newName_4 : decode cX12_newName 4 = .ok (.iconst 2, 1) := by decide +kernel
theorem dX12_newName_5 : decode cX12_newName 5 = .ok (.if_icmp .eq 9, 3) := by decide +kernel
theorem dX12_newName_8 : decode cX12_newName 8 = .ok (.aload_n 0, 1) := by decide +kernel
theorem dX12_newName_9 : decode cX12_newName 9 = .ok (.iconst 1, 1) := by decide +kernel
theorem dX12_newName_10 : decode cX12_newName 10 = .ok (.invokevirtual 317, 3) := by decide +kernel
theorem dX12_newName_13 : decode cX12_newName 13 = .ok (.ireturn, 1) := by decide +kernel
theorem dX12_newName_14 : decode cX12_newName 14 = .ok (.aload_n 0, 1) := by decide +kernel
theorem dX12_newName_15 : decode cX12_newName 15 = .ok (.invokevirtual 350, 3) := by decide +kernel
theorem dX12_newName_18 : decode cX12_newName 18 = .ok (.iconst (-1), 1) := by decide +kernel
theorem dX12_newName_19 : decode cX12_newName 19 = .ok (.if_icmp .eq 9, 3) := by decide +kernel
theorem dX12_newName_22 : decode cX12_newName 22 = .ok (.aload_n 0, 1) := by decide +kernel
theorem dX12_newName_23 : decode cX12_newName 23 = .ok (.iconst 3, 1) := by decide +kernel
theorem dX12_newName_24 : decode cX12_newName 24 = .ok (.invokevirtual 317, 3) := by decide +kernel
theorem dX12_newName_27 : decode cX12_newName 27 = .ok (.ireturn, 1) := by decide +kernel
theorem dX12_newName_28 : decode cX12_newName 28 = .ok (.aload_n 0, 1) := by decide +kernel
theorem dX12_newName_29 : decode cX12_newName 29 = .ok (.aload_n 0, 1) := by decide +kernel
theorem dX12_newName_30 : decode cX12_newName 30 = .ok (.getfield 275, 3) := by decide +kernel
theorem dX12_newName_33 : decode cX12_newName 33 = .ok (.putfield 353, 3) := by decide +kernel
theorem dX12_newName_36 : decode cX12_newName 36 = .ok (.aload_n 0, 1) := by decide +kernel
theorem dX12_newName_37 : decode cX12_newName 37 = .ok (.aload_n 0, 1) := by decide +kernel
theorem dX12_newName_38 : decode cX12_newName 38 = .ok (.getfield 287, 3) := by decide +kernel
theorem dX12_newName_41 : decode cX12_newName 41 = .ok (.putfield 356, 3) := by decide +kernel
theorem dX12_newName_44 : decode cX12_newName 44 = .ok (.aload_n 0, 1) := by decide +kernel
theorem dX12_newName_45 : decode cX12_newName 45 = .ok (.sipush 1000, 3) := by decide +kernel
theorem dX12_newName_48 : decode cX12_newName 48 = .ok (.invokevirtual 329, 3) := by decide +kernel
theorem dX12_newName_51 : decode cX12_newName 51 = .ok (.ireturn, 1) := by decide +kernel
abbrev rm_f_X12_newName : Room := { frames := 9, cells := 0, slots := 0, locals := 268 }
def f_X12_newName (N : Nat) (t : St) : Option (Int × St) :=
    lt1 (t.1 200 3) fun v1 =>
    cmpI v1 2 (if v1 = 2 then (bdI (f_X12_nameAt N t) fun v3 t2 =>
    cmpI v3 (-1) (if v3 = (-1) then (lt1 (t2.1 200 4) fun v4 =>
    lt1 (pI t2 200 111 v4) fun t5 =>
    lt1 (t5.1 200 6) fun v6 =>
    lt1 (pI t5 200 112 v6) fun t7 =>
    bdI (f_X12_takes N 1000 t7) fun v9 t8 =>
    boI v9 (some (v9, t8)))
    else (bdI (f_X12_wrong N 3 t2) fun v11 t10 =>
    boI v11 (some (v11, t10)))))
    else (bdI (f_X12_wrong N 1 t) fun v13 t12 =>
    boI v13 (some (v13, t12))))
set_option maxHeartbeats 4000000 in
set_option maxRecDepth 100000 in
theorem b_f_X12_newName {p : Program} {l : Launch} {e : Env} {s : State} {m : MethodId} {args : Array Value} {below : List Frame} {meth : Method} {c : Code} {E : cE} {A : Nat → Prop} {r : Nat → Nat} {mc ms : Nat} {z : Int × St} {N : Nat} {t : St} (X : gX p s m meth c cX12_newName 1 (some .boolean) yX12_newName args E A) (h : f_X12_newName N t = some z) : gP p l e rm_f_X12_newName s m args below meth c E A 1 (MQ below ((gqI E (gW E r shM) z) A) args s mc ms A) (gW E r shM) 0 [(0, .ref (r 200))] [] t := by
  unfold f_X12_newName at h
  refine g_aload_n X dX12_newName_0 0 rfl ?_
  refine g_getI X fM_3 rfl dX12_newName_1 h (fun v1 h => ?_)
  refine g_iconst X dX12_newName_4 ?_
  refine g_icmp_eq (tgt := 14) X dX12_newName_5 (by decide) h (fun h => ?_) (fun h => ?_)
  · refine g_aload_n X dX12_newName_14 0 rfl ?_
    refine g_callI (rest := []) X (fun u9 h9 => cp_X12_nameAt l E r N t u9 h9) yy_X12_nameAt yi_X12_nameAt wdM_RX12_350 0 12 (gW_at oM) rfl rfl rfl (Nat.le_of_ble_eq_true rfl) dX12_newName_15 ⟨by decide, by decide⟩ ⟨rfl, rfl⟩ h (fun v3 t2 h => ?_)
    refine g_iconst X dX12_newName_18 ?_
    refine g_icmp_eq (tgt := 28) X dX12_newName_19 (by decide) h (fun h => ?_) (fun h => ?_)
    · refine g_aload_n X dX12_newName_28 0 rfl ?_
      refine g_aload_n X dX12_newName_29 0 rfl ?_
      refine g_getI X fM_4 rfl dX12_newName_30 h (fun v4 h => ?_)
      refine g_putI X fM_111w rfl dX12_newName_33 h (fun t5 h => ?_)
      refine g_aload_n X dX12_newName_36 0 rfl ?_
      refine g_aload_n X dX12_newName_37 0 rfl ?_
      refine g_getI X fM_6 rfl dX12_newName_38 h (fun v6 h => ?_)
      refine g_putI X fM_112w rfl dX12_newName_41 h (fun t7 h => ?_)
      refine g_aload_n X dX12_newName_44 0 rfl ?_
      refine g_sipush X dX12_newName_45 (by decide) ?_
      refine g_callI (rest := []) X (fun u9 h9 => cp_X12_takes l E r N 1000 t7 u9 h9) yy_X12_takes yi_X12_takes wdM_RX12_329 0 12 (gW_at oM) rfl rfl rfl (Nat.le_of_ble_eq_true rfl) dX12_newName_48 ⟨by decide, by decide⟩ ⟨rfl, rfl⟩ h (fun v9 t8 h => ?_)
      exact g_zret X h dX12_newName_51
    · refine g_aload_n X dX12_newName_22 0 rfl ?_
      refine g_iconst X dX12_newName_23 ?_
      refine g_callI (rest := []) X (fun u9 h9 => cp_X12_wrong l E r N 3 t2 u9 h9) yy_X12_wrong yi_X12_wrong wdM_RX12_317 0 12 (gW_at oM) rfl rfl rfl (Nat.le_of_ble_eq_true rfl) dX12_newName_24 ⟨by decide, by decide⟩ ⟨rfl, rfl⟩ h (fun v11 t10 h => ?_)
      exact g_zret X h dX12_newName_27
  · refine g_aload_n X dX12_newName_8 0 rfl ?_
    refine g_iconst X dX12_newName_9 ?_
    refine g_callI (rest := []) X (fun u9 h9 => cp_X12_wrong l E r N 1 t u9 h9) yy_X12_wrong yi_X12_wrong wdM_RX12_317 0 12 (gW_at oM) rfl rfl rfl (Nat.le_of_ble_eq_true rfl) dX12_newName_10 ⟨by decide, by decide⟩ ⟨rfl, rfl⟩ h (fun v13 t12 h => ?_)
    exact g_zret X h dX12_newName_13
set_option maxHeartbeats 4000000 in
set_option maxRecDepth 100000 in
theorem cp_X12_newName (l : Launch) (E : cE) (r : Nat → Nat) (N : Nat) (t : St) (z : Int × St) (h : f_X12_newName N t = some z) : cM l E yX12_newName cX12_newName 1 (some .boolean) rm_f_X12_newName [.ref (r 200)] (gW E r shM t) (gqI E (gW E r shM) z) := by
  refine g_of (w := gW E r shM) (by decide) (Nat.le_of_ble_eq_true rfl) ?_
  intro p e s m below meth c A X
  exact g_sub (lv' := [(0, .ref (r 200))]) [0] rfl (b_f_X12_newName X h)
theorem yy_X12_newName : cY yX12_newName cX12_newName 1 (some .boolean) 0 := ⟨wdK_X12_newName, wdZ_RX12, by decide +kernel⟩
theorem yi_X12_newName : cYi yX12_newName := ⟨wdN_X12_newName, wdS_X12_newName⟩
theorem dX12_knownName_0 : decode cX12_knownName 0 = .ok (.aload_n 0, 1) := by decide +kernel
theorem dX12_knownName_1 : decode cX12_knownName 1 = .ok (.getfield 278, 3) := by decide +kernel
theorem dX12_knownName_4 : decode cX12_knownName 4 = .ok (.iconst 2, 1) := by decide +kernel
theorem dX12_knownName_5 : decode cX12_knownName 5 = .ok (.if_icmp .eq 9, 3) := by decide +kernel
theorem dX12_knownName_8 : decode cX12_knownName 8 = .ok (.aload_n 0, 1) := by decide +kernel
theorem dX12_knownName_9 : decode cX12_knownName 9 = .ok (.iconst 1, 1) := by decide +kernel
theorem dX12_knownName_10 : decode cX12_knownName 10 = .ok (.invokevirtual 317, 3) := by decide +kernel
theorem dX12_knownName_13 : decode cX12_knownName 13 = .ok (.ireturn, 1) := by decide +kernel
theorem dX12_knownName_14 : decode cX12_knownName 14 = .ok (.aload_n 0, 1) := by decide +kernel
theorem dX12_knownName_15 : decode cX12_knownName 15 = .ok (.invokevirtual 350, 3) := by decide +kernel
theorem dX12_knownName_18 : decode cX12_knownName 18 = .ok (.istore_n 2, 1) := by decide +kernel
theorem dX12_knownName_19 : decode cX12_knownName 19 = .ok (.iload_n 2, 1) := by decide +kernel
theorem dX12_knownName_20 : decode cX12_knownName 20 = .ok (.iconst (-1), 1) := by decide +kernel
theorem dX12_knownName_21 : decode cX12_knownName 21 = .ok (.if_icmp .eq 13, 3) := by decide +kernel
theorem dX12_knownName_24 : decode cX12_knownName 24 = .ok (.aload_n 0, 1) := by decide +kernel
theorem dX12_knownName_25 : decode cX12_knownName 25 = .ok (.getfield 20, 3) := by decide +kernel
theorem dX12_knownName_28 : decode cX12_knownName 28 = .ok (.iload_n 2, 1) := by decide +kernel
theorem dX12_knownName_29 : decode cX12_knownName 29 = .ok (.iaload, 1) := by decide +kernel
theorem dX12_knownName_30 : decode cX12_knownName 30 = .ok (.iload_n 1, 1) := by decide +kernel
theorem dX12_knownName_31 : decode cX12_knownName 31 = .ok (.if_icmp .eq 9, 3) := by decide +kernel
theorem dX12_knownName_34 : decode cX12_knownName 34 = .ok (.aload_n 0, 1) := by decide +kernel
theorem dX12_knownName_35 : decode cX12_knownName 35 = .ok (.iconst 2, 1) := by decide +kernel
theorem dX12_knownName_36 : decode cX12_knownName 36 = .ok (.invokevirtual 317, 3) := by decide +kernel
theorem dX12_knownName_39 : decode cX12_knownName 39 = .ok (.ireturn, 1) := by decide +kernel
theorem dX12_knownName_40 : decode cX12_knownName 40 = .ok (.aload_n 0, 1) := by decide +kernel
theorem dX12_knownName_41 : decode cX12_knownName 41 = .ok (.aload_n 0, 1) := by decide +kernel
theorem dX12_knownName_42 : decode cX12_knownName 42 = .ok (.getfield 23, 3) := by decide +kernel
theorem dX12_knownName_45 : decode cX12_knownName 45 = .ok (.iload_n 2, 1) := by decide +kernel
theorem dX12_knownName_46 : decode cX12_knownName 46 = .ok (.iaload, 1) := by decide +kernel
theorem dX12_knownName_47 : decode cX12_knownName 47 = .ok (.putfield 359, 3) := by decide +kernel
theorem dX12_knownName_50 : decode cX12_knownName 50 = .ok (.aload_n 0, 1) := by decide +kernel
theorem dX12_knownName_51 : decode cX12_knownName 51 = .ok (.iload_n 1, 1) := by decide +kernel
theorem dX12_knownName_52 : decode cX12_knownName 52 = .ok (.ifCond .ne 9, 3) := by decide +kernel
theorem dX12_knownName_55 : decode cX12_knownName 55 = .ok (.sipush 2000, 3) := by decide +kernel
theorem dX12_knownName_58 : decode cX12_knownName 58 = .ok (.goto 17, 3) := by decide +kernel
theorem dX12_knownName_61 : decode cX12_knownName 61 = .ok (.iload_n 1, 1) := by decide +kernel
theorem dX12_knownName_62 : decode cX12_knownName 62 = .ok (.iconst 1, 1) := by decide +kernel
theorem dX12_knownName_63 : decode cX12_knownName 63 = .ok (.if_icmp .ne 9, 3) := by decide +kernel
theorem dX12_knownName_66 : decode cX12_knownName 66 = .ok (.sipush 3000, 3) := by decide +kernel
theorem dX12_knownName_69 : decode cX12_knownName 69 = .ok (.goto 6, 3) := by decide +kernel
theorem dX12_knownName_72 : decode cX12_knownName 72 = .ok (.sipush 4000, 3) := by decide +kernel
theorem dX12_knownName_75 : decode cX12_knownName 75 = .ok (.aload_n 0, 1) := by decide +kernel
theorem dX12_knownName_76 : decode cX12_knownName 76 = .ok (.getfield 359, 3) := by decide +kernel
theorem dX12_knownName_79 : decode cX12_knownName 79 = .ok (.iadd, 1) := by decide +kernel
theorem dX12_knownName_80 : decode cX12_knownName 80 = .ok (.invokevirtual 329, 3) := by decide +kernel
theorem dX12_knownName_83 : decode cX12_knownName 83 = .ok (.ireturn, 1) := by decide +kernel
abbrev rm_f_X12_knownName : Room := { frames := 9, cells := 0, slots := 0, locals := 268 }
def f_X12_knownName (N : Nat) (a0 : Int) (t : St) : Option (Int × St) :=
    lt1 (t.1 200 3) fun v1 =>
    cmpI v1 2 (if v1 = 2 then (bdI (f_X12_nameAt N t) fun v3 t2 =>
    jn1 (fun (t4 : St) => bdI (f_X12_wrong N 2 t4) fun v7 t6 =>
    boI v7 (some (v7, t6))) fun J5 =>
    cmpI v3 (-1) (if v3 = (-1) then (J5 t2)
    else (ixI v3 200 (lt1 (t2.1 11 v3.toNat) fun v8 =>
    cmpI v8 a0 (if v8 = a0 then (ixI v3 200 (lt1 (t2.1 12 v3.toNat) fun v9 =>
    lt1 (pI t2 200 113 v9) fun t10 =>
    jn1 (fun (j11 : Int) (t12 : St) => lt1 (t12.1 200 113) fun v14 =>
    bdI (f_X12_takes N (j11 + v14) t12) fun v16 t15 =>
    boI v16 (some (v16, t15))) fun J13 =>
    cmpI a0 0 (if a0 = 0 then (J13 2000 t10)
    else (cmpI a0 1 (if a0 = 1 then (J13 3000 t10)
    else (J13 4000 t10))))))
    else (J5 t2))))))
    else (bdI (f_X12_wrong N 1 t) fun v18 t17 =>
    boI v18 (some (v18, t17))))
set_option maxHeartbeats 4000000 in
set_option maxRecDepth 100000 in
theorem b_f_X12_knownName {p : Program} {l : Launch} {e : Env} {s : State} {m : MethodId} {args : Array Value} {below : List Frame} {meth : Method} {c : Code} {E : cE} {A : Nat → Prop} {r : Nat → Nat} {mc ms : Nat} {z : Int × St} {N : Nat} {a0 : Int} {t : St} (X : gX p s m meth c cX12_knownName 3 (some .boolean) yX12_knownName args E A) (h : f_X12_knownName N a0 t = some z) : gP p l e rm_f_X12_knownName s m args below meth c E A 3 (MQ below ((gqI E (gW E r shM) z) A) args s mc ms A) (gW E r shM) 0 [(0, .ref (r 200)), (1, iv a0)] [] t := by
  unfold f_X12_knownName at h
  refine g_aload_n X dX12_knownName_0 0 rfl ?_
  refine g_getI X fM_3 rfl dX12_knownName_1 h (fun v1 h => ?_)
  refine g_iconst X dX12_knownName_4 ?_
  refine g_icmp_eq (tgt := 14) X dX12_knownName_5 (by decide) h (fun h => ?_) (fun h => ?_)
  · refine g_aload_n X dX12_knownName_14 0 rfl ?_
    refine g_callI (rest := []) X (fun u9 h9 => cp_X12_nameAt l E r N t u9 h9) yy_X12_nameAt yi_X12_nameAt wdM_RX12_350 0 12 (gW_at oM) rfl rfl rfl (Nat.le_of_ble_eq_true rfl) dX12_knownName_15 ⟨by decide, by decide⟩ ⟨rfl, rfl⟩ h (fun v3 t2 h => ?_)
    refine g_istore_n (lv' := [(2, iv v3), (0, .ref (r 200)), (1, iv a0)]) X dX12_knownName_18 rfl (by decide) rfl ?_
    refine g_iload_n X dX12_knownName_19 0 rfl ?_
    refine g_iconst X dX12_knownName_20 ?_
    refine g_join (J := fun jj => ∀ (t4 : St), jj  t4 = some z → gP p l e rm_f_X12_knownName s m args below meth c E A 3 (MQ below ((gqI E (gW E r shM) z) A) args s mc ms A) (gW E r shM) 34 [(0, .ref (r 200))] [] t4) h (fun  t4 h => ?_) (fun J5 hJ5 h => ?_)
    · refine g_aload_n X dX12_knownName_34 0 rfl ?_
      refine g_iconst X dX12_knownName_35 ?_
      refine g_callI (rest := []) X (fun u9 h9 => cp_X12_wrong l E r N 2 t4 u9 h9) yy_X12_wrong yi_X12_wrong wdM_RX12_317 0 12 (gW_at oM) rfl rfl rfl (Nat.le_of_ble_eq_true rfl) dX12_knownName_36 ⟨by decide, by decide⟩ ⟨rfl, rfl⟩ h (fun v7 t6 h => ?_)
      exact g_zret X h dX12_knownName_39
    refine g_icmp_eq (tgt := 34) X dX12_knownName_21 (by decide) h (fun h => ?_) (fun h => ?_)
    · exact g_sub (lv' := [(0, .ref (r 200))]) [1] rfl (hJ5 t2 h)
    · refine g_aload_n X dX12_knownName_24 1 rfl ?_
      refine g_getR X fM_11 rfl dX12_knownName_25 ?_
      refine g_iload_n X dX12_knownName_28 0 rfl ?_
      refine g_iald X aM_11 dX12_knownName_29 h (fun v8 h => ?_)
      refine g_iload_n X dX12_knownName_30 2 rfl ?_
      refine g_icmp_eq (tgt := 40) X dX12_knownName_31 (by decide) h (fun h => ?_) (fun h => ?_)
      · refine g_aload_n X dX12_knownName_40 1 rfl ?_
        refine g_aload_n X dX12_knownName_41 1 rfl ?_
        refine g_getR X fM_12 rfl dX12_knownName_42 ?_
        refine g_iload_n X dX12_knownName_45 0 rfl ?_
        refine g_iald X aM_12 dX12_knownName_46 h (fun v9 h => ?_)
        refine g_putI X fM_113w rfl dX12_knownName_47 h (fun t10 h => ?_)
        refine g_aload_n X dX12_knownName_50 1 rfl ?_
        refine g_iload_n X dX12_knownName_51 2 rfl ?_
        refine g_join (J := fun jj => ∀ (j11 : Int) (t12 : St), jj j11 t12 = some z → gP p l e rm_f_X12_knownName s m args below meth c E A 3 (MQ below ((gqI E (gW E r shM) z) A) args s mc ms A) (gW E r shM) 75 [(0, .ref (r 200))] [iv j11, .ref (r 200)] t12) h (fun j11 t12 h => ?_) (fun J13 hJ13 h => ?_)
        · refine g_aload_n X dX12_knownName_75 0 rfl ?_
          refine g_getI X fM_113 rfl dX12_knownName_76 h (fun v14 h => ?_)
          refine g_iadd X dX12_knownName_79 ?_
          refine g_callI (rest := []) X (fun u9 h9 => cp_X12_takes l E r N (j11 + v14) t12 u9 h9) yy_X12_takes yi_X12_takes wdM_RX12_329 0 12 (gW_at oM) rfl rfl rfl (Nat.le_of_ble_eq_true rfl) dX12_knownName_80 ⟨by decide, by decide⟩ ⟨rfl, rfl⟩ h (fun v16 t15 h => ?_)
          exact g_zret X h dX12_knownName_83
        refine g_if_ne (tgt := 61) X dX12_knownName_52 (by decide) h (fun h => ?_) (fun h => ?_)
        · refine g_iload_n X dX12_knownName_61 2 rfl ?_
          refine g_iconst X dX12_knownName_62 ?_
          refine g_icmp_ne (tgt := 72) X dX12_knownName_63 (by decide) h (fun h => ?_) (fun h => ?_)
          · refine g_sipush X dX12_knownName_72 (by decide) ?_
            exact g_sub (lv' := [(0, .ref (r 200))]) [1] rfl (hJ13 4000 t10 h)
          · refine g_sipush X dX12_knownName_66 (by decide) ?_
            refine g_goto (tgt := 75) X dX12_knownName_69 (by decide) ?_
            exact g_sub (lv' := [(0, .ref (r 200))]) [1] rfl (hJ13 3000 t10 h)
        · refine g_sipush X dX12_knownName_55 (by decide) ?_
          refine g_goto (tgt := 75) X dX12_knownName_58 (by decide) ?_
          exact g_sub (lv' := [(0, .ref (r 200))]) [1] rfl (hJ13 2000 t10 h)
      · exact g_sub (lv' := [(0, .ref (r 200))]) [1] rfl (hJ5 t2 h)
  · refine g_aload_n X dX12_knownName_8 0 rfl ?_
    refine g_iconst X dX12_knownName_9 ?_
    refine g_callI (rest := []) X (fun u9 h9 => cp_X12_wrong l E r N 1 t u9 h9) yy_X12_wrong yi_X12_wrong wdM_RX12_317 0 12 (gW_at oM) rfl rfl rfl (Nat.le_of_ble_eq_true rfl) dX12_knownName_10 ⟨by decide, by decide⟩ ⟨rfl, rfl⟩ h (fun v18 t17 h => ?_)
    exact g_zret X h dX12_knownName_13
set_option maxHeartbeats 4000000 in
set_option maxRecDepth 100000 in
theorem cp_X12_knownName (l : Launch) (E : cE) (r : Nat → Nat) (N : Nat) (a0 : Int) (t : St) (z : Int × St) (h : f_X12_knownName N a0 t = some z) : cM l E yX12_knownName cX12_knownName 3 (some .boolean) rm_f_X12_knownName [.ref (r 200), iv a0] (gW E r shM t) (gqI E (gW E r shM) z) := by
  refine g_of (w := gW E r shM) (by decide) (Nat.le_of_ble_eq_true rfl) ?_
  intro p e s m below meth c A X
  exact g_sub (lv' := [(0, .ref (r 200)), (1, iv a0)]) [0, 1] rfl (b_f_X12_knownName X h)
theorem yy_X12_knownName : cY yX12_knownName cX12_knownName 3 (some .boolean) 1 := ⟨wdK_X12_knownName, wdZ_RX12, by decide +kernel⟩
theorem yi_X12_knownName : cYi yX12_knownName := ⟨wdN_X12_knownName, wdS_X12_knownName⟩
theorem dX12_slot_0 : decode cX12_slot 0 = .ok (.bipush 8, 2) := by decide +kernel
theorem dX12_slot_2 : decode cX12_slot 2 = .ok (.aload_n 0, 1) := by decide +kernel
theorem dX12_slot_3 : decode cX12_slot 3 = .ok (.getfield 362, 3) := by decide +kernel
theorem dX12_slot_6 : decode cX12_slot 6 = .ok (.imul, 1) := by decide +kernel
theorem dX12_slot_7 : decode cX12_slot 7 = .ok (.iload_n 1, 1) := by decide +kernel
theorem dX12_slot_8 : decode cX12_slot 8 = .ok (.iadd, 1) := by decide +kernel
theorem dX12_slot_9 : decode cX12_slot 9 = .ok (.istore_n 2, 1) := by decide +kernel
theorem dX12_slot_10 : decode cX12_slot 10 = .ok (.aload_n 0, 1) := by decide +kernel
theorem dX12_slot_11 : decode cX12_slot 11 = .ok (.getfield 278, 3) := by decide +kernel
theorem dX12_slot_14 : decode cX12_slot 14 = .ok (.iconst 3, 1) := by decide +kernel
theorem dX12_slot_15 : decode cX12_slot 15 = .ok (.if_icmp .eq 9, 3) := by decide +kernel
theorem dX12_slot_18 : decode cX12_slot 18 = .ok (.aload_n 0, 1) := by decide +kernel
theorem dX12_slot_19 : decode cX12_slot 19 = .ok (.iconst 1, 1) := by decide +kernel
theorem dX12_slot_20 : decode cX12_slot 20 = .ok (.invokevirtual 317, 3) := by decide +kernel
theorem dX12_slot_23 : decode cX12_slot 23 = .ok (.ireturn, 1) := by decide +kernel
theorem dX12_slot_24 : decode cX12_slot 24 = .ok (.aload_n 0, 1) := by decide +kernel
theorem dX12_slot_25 : decode cX12_slot 25 = .ok (.getfield 294, 3) := by decide +kernel
theorem dX12_slot_28 : decode cX12_slot 28 = .ok (.bipush (-32), 2) := by decide +kernel
theorem dX12_slot_30 : decode cX12_slot 30 = .ok (.bipush 32, 2) := by decide +kernel
theorem dX12_slot_32 : decode cX12_slot 32 = .ok (.invokestatic 227, 3) := by decide +kernel
theorem dX12_slot_35 : decode cX12_slot 35 = .ok (.ifCond .ne 9, 3) := by decide +kernel
theorem dX12_slot_38 : decode cX12_slot 38 = .ok (.aload_n 0, 1) := by decide +kernel
theorem dX12_slot_39 : decode cX12_slot 39 = .ok (.iconst 4, 1) := by decide +kernel
theorem dX12_slot_40 : decode cX12_slot 40 = .ok (.invokevirtual 317, 3) := by decide +kernel
theorem dX12_slot_43 : decode cX12_slot 43 = .ok (.ireturn, 1) := by decide +kernel
theorem dX12_slot_44 : decode cX12_slot 44 = .ok (.iload_n 1, 1) := by decide +kernel
theorem dX12_slot_45 : decode cX12_slot 45 = .ok (.bipush 8, 2) := by decide +kernel
theorem dX12_slot_47 : decode cX12_slot 47 = .ok (.if_icmp .ne 9, 3) := by decide +kernel
theorem dX12_slot_50 : decode cX12_slot 50 = .ok (.aload_n 0, 1) := by decide +kernel
theorem dX12_slot_51 : decode cX12_slot 51 = .ok (.iconst 5, 1) := by decide +kernel
theorem dX12_slot_52 : decode cX12_slot 52 = .ok (.invokevirtual 317, 3) := by decide +kernel
theorem dX12_slot_55 : decode cX12_slot 55 = .ok (.ireturn, 1) := by decide +kernel
theorem dX12_slot_56 : decode cX12_slot 56 = .ok (.aload_n 0, 1) := by decide +kernel
theorem dX12_slot_57 : decode cX12_slot 57 = .ok (.getfield 29, 3) := by decide +kernel
theorem dX12_slot_60 : decode cX12_slot 60 = .ok (.iload_n 2, 1) := by decide +kernel
theorem dX12_slot_61 : decode cX12_slot 61 = .ok (.aload_n 0, 1) := by decide +kernel
theorem dX12_slot_62 : decode cX12_slot 62 = .ok (.getfield 294, 3) := by decide +kernel
theorem dX12_slot_65 : decode cX12_slot 65 = .ok (.iastore, 1) := by decide +kernel
theorem dX12_slot_66 : decode cX12_slot 66 = .ok (.aload_n 0, 1) := by decide +kernel
theorem dX12_slot_67 : decode cX12_slot 67 = .ok (.invokevirtual 323, 3) := by decide +kernel
theorem dX12_slot_70 : decode cX12_slot 70 = .ok (.aload_n 0, 1) := by decide +kernel
theorem dX12_slot_71 : decode cX12_slot 71 = .ok (.getfield 278, 3) := by decide +kernel
theorem dX12_slot_74 : decode cX12_slot 74 = .ok (.iconst 3, 1) := by decide +kernel
theorem dX12_slot_75 : decode cX12_slot 75 = .ok (.if_icmp .eq 9, 3) := by decide +kernel
theorem dX12_slot_78 : decode cX12_slot 78 = .ok (.aload_n 0, 1) := by decide +kernel
theorem dX12_slot_79 : decode cX12_slot 79 = .ok (.iconst 1, 1) := by decide +kernel
theorem dX12_slot_80 : decode cX12_slot 80 = .ok (.invokevirtual 317, 3) := by decide +kernel
theorem dX12_slot_83 : decode cX12_slot 83 = .ok (.ireturn, 1) := by decide +kernel
theorem dX12_slot_84 : decode cX12_slot 84 = .ok (.aload_n 0, 1) := by decide +kernel
theorem dX12_slot_85 : decode cX12_slot 85 = .ok (.getfield 294, 3) := by decide +kernel
theorem dX12_slot_88 : decode cX12_slot 88 = .ok (.bipush (-32), 2) := by decide +kernel
theorem dX12_slot_90 : decode cX12_slot 90 = .ok (.bipush 32, 2) := by decide +kernel
theorem dX12_slot_92 : decode cX12_slot 92 = .ok (.invokestatic 227, 3) := by decide +kernel
theorem dX12_slot_95 : decode cX12_slot 95 = .ok (.ifCond .ne 9, 3) := by decide +kernel
theorem dX12_slot_98 : decode cX12_slot 98 = .ok (.aload_n 0, 1) := by decide +kernel
theorem dX12_slot_99 : decode cX12_slot 99 = .ok (.iconst 4, 1) := by decide +kernel
theorem dX12_slot_100 : decode cX12_slot 100 = .ok (.invokevirtual 317, 3) := by decide +kernel
theorem dX12_slot_103 : decode cX12_slot 103 = .ok (.ireturn, 1) := by decide +kernel
theorem dX12_slot_104 : decode cX12_slot 104 = .ok (.bipush 8, 2) := by decide +kernel
theorem dX12_slot_106 : decode cX12_slot 106 = .ok (.aload_n 0, 1) := by decide +kernel
theorem dX12_slot_107 : decode cX12_slot 107 = .ok (.getfield 362, 3) := by decide +kernel
theorem dX12_slot_110 : decode cX12_slot 110 = .ok (.imul, 1) := by decide +kernel
theorem dX12_slot_111 : decode cX12_slot 111 = .ok (.istore_n 3, 1) := by decide +kernel
theorem dX12_slot_112 : decode cX12_slot 112 = .ok (.iload_n 3, 1) := by decide +kernel
theorem dX12_slot_113 : decode cX12_slot 113 = .ok (.iload_n 2, 1) := by decide +kernel
theorem dX12_slot_114 : decode cX12_slot 114 = .ok (.if_icmp .ge 44, 3) := by decide +kernel
theorem dX12_slot_117 : decode cX12_slot 117 = .ok (.aload_n 0, 1) := by decide +kernel
theorem dX12_slot_118 : decode cX12_slot 118 = .ok (.getfield 29, 3) := by decide +kernel
theorem dX12_slot_121 : decode cX12_slot 121 = .ok (.iload_n 3, 1) := by decide +kernel
theorem dX12_slot_122 : decode cX12_slot 122 = .ok (.iaload, 1) := by decide +kernel
theorem dX12_slot_123 : decode cX12_slot 123 = .ok (.aload_n 0, 1) := by decide +kernel
theorem dX12_slot_124 : decode cX12_slot 124 = .ok (.getfield 29, 3) := by decide +kernel
theorem dX12_slot_127 : decode cX12_slot 127 = .ok (.iload_n 2, 1) := by decide +kernel
theorem dX12_slot_128 : decode cX12_slot 128 = .ok (.iaload, 1) := by decide +kernel
theorem dX12_slot_129 : decode cX12_slot 129 = .ok (.if_icmp .ne 23, 3) := by decide +kernel
theorem dX12_slot_132 : decode cX12_slot 132 = .ok (.aload_n 0, 1) := by decide +kernel
theorem dX12_slot_133 : decode cX12_slot 133 = .ok (.getfield 32, 3) := by decide +kernel
theorem dX12_slot_136 : decode cX12_slot 136 = .ok (.iload_n 3, 1) := by decide +kernel
theorem dX12_slot_137 : decode cX12_slot 137 = .ok (.iaload, 1) := by decide +kernel
theorem dX12_slot_138 : decode cX12_slot 138 = .ok (.aload_n 0, 1) := by decide +kernel
theorem dX12_slot_139 : decode cX12_slot 139 = .ok (.getfield 294, 3) := by decide +kernel
theorem dX12_slot_142 : decode cX12_slot 142 = .ok (.if_icmp .ne 10, 3) := by decide +kernel
theorem dX12_slot_145 : decode cX12_slot 145 = .ok (.aload_n 0, 1) := by decide +kernel
theorem dX12_slot_146 : decode cX12_slot 146 = .ok (.bipush 7, 2) := by decide +kernel
theorem dX12_slot_148 : decode cX12_slot 148 = .ok (.invokevirtual 317, 3) := by decide +kernel
theorem dX12_slot_151 : decode cX12_slot 151 = .ok (.ireturn, 1) := by decide +kernel
theorem dX12_slot_152 : decode cX12_slot 152 = .ok (.iinc 3 1, 3) := by decide +kernel
theorem dX12_slot_155 : decode cX12_slot 155 = .ok (.goto (-43), 3) := by decide +kernel
theorem dX12_slot_158 : decode cX12_slot 158 = .ok (.aload_n 0, 1) := by decide +kernel
theorem dX12_slot_159 : decode cX12_slot 159 = .ok (.getfield 32, 3) := by decide +kernel
theorem dX12_slot_162 : decode cX12_slot 162 = .ok (.iload_n 2, 1) := by decide +kernel
theorem dX12_slot_163 : decode cX12_slot 163 = .ok (.aload_n 0, 1) := by decide +kernel
theorem dX12_slot_164 : decode cX12_slot 164 = .ok (.getfield 294, 3) := by decide +kernel
theorem dX12_slot_167 : decode cX12_slot 167 = .ok (.iastore, 1) := by decide +kernel
theorem dX12_slot_168 : decode cX12_slot 168 = .ok (.aload_n 0, 1) := by decide +kernel
theorem dX12_slot_169 : decode cX12_slot 169 = .ok (.invokevirtual 323, 3) := by decide +kernel
theorem dX12_slot_172 : decode cX12_slot 172 = .ok (.aload_n 0, 1) := by decide +kernel
theorem dX12_slot_173 : decode cX12_slot 173 = .ok (.getfield 278, 3) := by decide +kernel
theorem dX12_slot_176 : decode cX12_slot 176 = .ok (.iconst 1, 1) := by decide +kernel
theorem dX12_slot_177 : decode cX12_slot 177 = .ok (.if_icmp .ne 17, 3) := by decide +kernel
theorem dX12_slot_180 : decode cX12_slot 180 = .ok (.aload_n 0, 1) := by decide +kernel
theorem dX12_slot_181 : decode cX12_slot 181 = .ok (.getfield 294, 3) := by decide +kernel
theorem dX12_slot_184 : decode cX12_slot 184 = .ok (.bipush 31, 2) := by decide +kernel
theorem dX12_slot_186 : decode cX12_slot 186 = .ok (.bipush 35, 2) := by decide +kernel
theorem dX12_slot_188 : decode cX12_slot 188 = .ok (.invokestatic 227, 3) := by decide +kernel
theorem dX12_slot_191 : decode cX12_slot 191 = .ok (.ifCond .ne 9, 3) := by decide +kernel
theorem dX12_slot_194 : decode cX12_slot 194 = .ok (.aload_n 0, 1) := by decide +kernel
theorem dX12_slot_195 : decode cX12_slot 195 = .ok (.iconst 1, 1) := by decide +kernel
theorem dX12_slot_196 : decode cX12_slot 196 = .ok (.invokevirtual 317, 3) := by decide +kernel
theorem dX12_slot_199 : decode cX12_slot 199 = .ok (.ireturn, 1) := by decide +kernel
theorem dX12_slot_200 : decode cX12_slot 200 = .ok (.aload_n 0, 1) := by decide +kernel
theorem dX12_slot_201 : decode cX12_slot 201 = .ok (.getfield 35, 3) := by decide +kernel
theorem dX12_slot_204 : decode cX12_slot 204 = .ok (.iload_n 2, 1) := by decide +kernel
theorem dX12_slot_205 : decode cX12_slot 205 = .ok (.aload_n 0, 1) := by decide +kernel
theorem dX12_slot_206 : decode cX12_slot 206 = .ok (.getfield 294, 3) := by decide +kernel
theorem dX12_slot_209 : decode cX12_slot 209 = .ok (.bipush 31, 2) := by decide +kernel
theorem dX12_slot_211 : decode cX12_slot 211 = .ok (.isub, 1) := by decide +kernel
theorem dX12_slot_212 : decode cX12_slot 212 = .ok (.iastore, 1) := by decide +kernel
theorem dX12_slot_213 : decode cX12_slot 213 = .ok (.aload_n 0, 1) := by decide +kernel
theorem dX12_slot_214 : decode cX12_slot 214 = .ok (.invokevirtual 323, 3) := by decide +kernel
theorem dX12_slot_217 : decode cX12_slot 217 = .ok (.aload_n 0, 1) := by decide +kernel
theorem dX12_slot_218 : decode cX12_slot 218 = .ok (.getfield 38, 3) := by decide +kernel
theorem dX12_slot_221 : decode cX12_slot 221 = .ok (.iload_n 2, 1) := by decide +kernel
theorem dX12_slot_222 : decode cX12_slot 222 = .ok (.aload_n 0, 1) := by decide +kernel
theorem dX12_slot_223 : decode cX12_slot 223 = .ok (.bipush 36, 2) := by decide +kernel
theorem dX12_slot_225 : decode cX12_slot 225 = .ok (.invokevirtual 326, 3) := by decide +kernel
theorem dX12_slot_228 : decode cX12_slot 228 = .ok (.ifCond .eq 7, 3) := by decide +kernel
theorem dX12_slot_231 : decode cX12_slot 231 = .ok (.iconst 1, 1) := by decide +kernel
theorem dX12_slot_232 : decode cX12_slot 232 = .ok (.goto 17, 3) := by decide +kernel
theorem dX12_slot_235 : decode cX12_slot 235 = .ok (.aload_n 0, 1) := by decide +kernel
theorem dX12_slot_236 : decode cX12_slot 236 = .ok (.bipush 37, 2) := by decide +kernel
theorem dX12_slot_238 : decode cX12_slot 238 = .ok (.invokevirtual 326, 3) := by decide +kernel
theorem dX12_slot_241 : decode cX12_slot 241 = .ok (.ifCond .eq 7, 3) := by decide +kernel
theorem dX12_slot_244 : decode cX12_slot 244 = .ok (.iconst 2, 1) := by decide +kernel
theorem dX12_slot_245 : decode cX12_slot 245 = .ok (.goto 4, 3) := by decide +kernel
theorem dX12_slot_248 : decode cX12_slot 248 = .ok (.iconst 0, 1) := by decide +kernel
theorem dX12_slot_249 : decode cX12_slot 249 = .ok (.iastore, 1) := by decide +kernel
theorem dX12_slot_250 : decode cX12_slot 250 = .ok (.aload_n 0, 1) := by decide +kernel
theorem dX12_slot_251 : decode cX12_slot 251 = .ok (.getfield 38, 3) := by decide +kernel
theorem dX12_slot_254 : decode cX12_slot 254 = .ok (.iload_n 2, 1) := by decide +kernel
theorem dX12_slot_255 : decode cX12_slot 255 = .ok (.iaload, 1) := by decide +kernel
theorem dX12_slot_256 : decode cX12_slot 256 = .ok (.ifCond .le 7, 3) := by decide +kernel
theorem dX12_slot_259 : decode cX12_slot 259 = .ok (.aload_n 0, 1) := by decide +kernel
theorem dX12_slot_260 : decode cX12_slot 260 = .ok (.invokevirtual 323, 3) := by decide +kernel
theorem dX12_slot_263 : decode cX12_slot 263 = .ok (.iconst 1, 1) := by decide +kernel
theorem dX12_slot_264 : decode cX12_slot 264 = .ok (.ireturn, 1) := by decide +kernel
abbrev rm_f_X12_slot : Room := { frames := 8, cells := 0, slots := 0, locals := 247 }
def f_X12_slot_L112 (K17 : (St → Option (Int × St))) (K18 : (St → Option (Int × St))) (y14 : Int) : Nat → Int → St → Option (Int × St)
  | 0, _, _ => none
  | n9 + 1, x15, t16 =>
    cmpI x15 y14 (if x15 < y14 then (ixI x15 320 (lt1 (t16.1 19 x15.toNat) fun v19 =>
    ixI y14 320 (lt1 (t16.1 19 y14.toNat) fun v20 =>
    jn1 (fun (t21 : St) => f_X12_slot_L112 K17 K18 y14 n9 (x15 + 1) t21) fun J22 =>
    cmpI v19 v20 (if v19 = v20 then (ixI x15 320 (lt1 (t16.1 20 x15.toNat) fun v23 =>
    lt1 (t16.1 200 5) fun v24 =>
    cmpI v23 v24 (if v23 = v24 then (K17 t16)
    else (J22 t16))))
    else (J22 t16)))))
    else (K18 t16))
def f_X12_slot (N : Nat) (a0 : Int) (t : St) : Option (Int × St) :=
    lt1 (t.1 200 14) fun v1 =>
    lt1 (t.1 200 3) fun v2 =>
    cmpI v2 3 (if v2 = 3 then (lt1 (t.1 200 5) fun v3 =>
    bdI (f_X12_in N v3 (-32) 32 t) fun v5 t4 =>
    cmpI v5 0 (if v5 = 0 then (bdI (f_X12_wrong N 4 t4) fun v60 t59 =>
    boI v60 (some (v60, t59)))
    else (cmpI a0 8 (if a0 = 8 then (bdI (f_X12_wrong N 5 t4) fun v58 t57 =>
    boI v58 (some (v58, t57)))
    else (lt1 (t4.1 200 5) fun v6 =>
    ixI ((8 * v1) + a0) 320 (lt1 (pI t4 19 ((8 * v1) + a0).toNat v6) fun t7 =>
    bdV (f_X12_next N t7) fun t8 =>
    lt1 (t8.1 200 3) fun v9 =>
    cmpI v9 3 (if v9 = 3 then (lt1 (t8.1 200 5) fun v10 =>
    bdI (f_X12_in N v10 (-32) 32 t8) fun v12 t11 =>
    cmpI v12 0 (if v12 = 0 then (bdI (f_X12_wrong N 4 t11) fun v54 t53 =>
    boI v54 (some (v54, t53)))
    else (lt1 (t11.1 200 14) fun v13 =>
    f_X12_slot_L112 (fun (t25 : St) => bdI (f_X12_wrong N 7 t25) fun v27 t26 =>
    boI v27 (some (v27, t26))) (fun (t28 : St) => lt1 (t28.1 200 5) fun v29 =>
    ixI ((8 * v1) + a0) 320 (lt1 (pI t28 20 ((8 * v1) + a0).toNat v29) fun t30 =>
    bdV (f_X12_next N t30) fun t31 =>
    lt1 (t31.1 200 3) fun v32 =>
    jn1 (fun (t33 : St) => bdI (f_X12_wrong N 1 t33) fun v36 t35 =>
    boI v36 (some (v36, t35))) fun J34 =>
    cmpI v32 1 (if v32 = 1 then (lt1 (t31.1 200 5) fun v37 =>
    bdI (f_X12_in N v37 31 35 t31) fun v39 t38 =>
    cmpI v39 0 (if v39 = 0 then (J34 t38)
    else (lt1 (t38.1 200 5) fun v40 =>
    ixI ((8 * v1) + a0) 320 (lt1 (pI t38 21 ((8 * v1) + a0).toNat (v40 - 31)) fun t41 =>
    bdV (f_X12_next N t41) fun t42 =>
    bdI (f_X12_isKey N 36 t42) fun v44 t43 =>
    jn1 (fun (j45 : Int) (t46 : St) => ixI ((8 * v1) + a0) 320 (lt1 (pI t46 22 ((8 * v1) + a0).toNat j45) fun t48 =>
    ixI ((8 * v1) + a0) 320 (lt1 (t48.1 22 ((8 * v1) + a0).toNat) fun v49 =>
    cmpI v49 0 (if 0 < v49 then (bdV (f_X12_next N t48) fun t50 =>
    boI 1 (some (1, t50)))
    else (boI 1 (some (1, t48))))))) fun J47 =>
    cmpI v44 0 (if v44 = 0 then (bdI (f_X12_isKey N 37 t43) fun v52 t51 =>
    cmpI v52 0 (if v52 = 0 then (J47 0 t51)
    else (J47 2 t51)))
    else (J47 1 t43))))))
    else (J34 t31)))) ((8 * v1) + a0) N (8 * v13) t11)))
    else (bdI (f_X12_wrong N 1 t8) fun v56 t55 =>
    boI v56 (some (v56, t55))))))))))
    else (bdI (f_X12_wrong N 1 t) fun v62 t61 =>
    boI v62 (some (v62, t61))))
set_option maxHeartbeats 4000000 in
set_option maxRecDepth 100000 in
theorem t_f_X12_slot_L112 {p : Program} {l : Launch} {e : Env} {s : State} {m : MethodId} {args : Array Value} {below : List Frame} {meth : Method} {c : Code} {E : cE} {A : Nat → Prop} {r : Nat → Nat} {mc ms : Nat} {z : Int × St} {K17 : (St → Option (Int × St))} {K18 : (St → Option (Int × St))} {y14 : Int} (X : gX p s m meth c cX12_slot 4 (some .boolean) yX12_slot args E A) (hK17 : ∀ (t9 : St), K17 t9 = some z → gP p l e rm_f_X12_slot s m args below meth c E A 4 (MQ below ((gqI E (gW E r shM) z) A) args s mc ms A) (gW E r shM) 145 [(0, .ref (r 200))] [] t9) (hK18 : ∀ (t9 : St), K18 t9 = some z → gP p l e rm_f_X12_slot s m args below meth c E A 4 (MQ below ((gqI E (gW E r shM) z) A) args s mc ms A) (gW E r shM) 158 [(0, .ref (r 200)), (2, iv y14)] [] t9) : ∀ (n9 : Nat) (x15 : Int) (t16 : St), f_X12_slot_L112 K17 K18 y14 n9 x15 t16 = some z → gP p l e rm_f_X12_slot s m args below meth c E A 4 (MQ below ((gqI E (gW E r shM) z) A) args s mc ms A) (gW E r shM) 112 [(0, .ref (r 200)), (2, iv y14), (3, iv x15)] [] t16 := by
  intro n9
  induction n9 with
  | zero => intro x15 t16 h; cases h
  | succ n9 ih =>
    intro x15 t16 h
    unfold f_X12_slot_L112 at h
    refine g_iload_n X dX12_slot_112 2 rfl ?_
    refine g_iload_n X dX12_slot_113 1 rfl ?_
    refine g_icmp_ge (tgt := 158) X dX12_slot_114 (by decide) h (fun h => ?_) (fun h => ?_)
    · exact g_sub (lv' := [(0, .ref (r 200)), (2, iv y14)]) [0, 1] rfl (hK18 t16 h)
    · refine g_aload_n X dX12_slot_117 0 rfl ?_
      refine g_getR X fM_19 rfl dX12_slot_118 ?_
      refine g_iload_n X dX12_slot_121 2 rfl ?_
      refine g_iald X aM_19 dX12_slot_122 h (fun v19 h => ?_)
      refine g_aload_n X dX12_slot_123 0 rfl ?_
      refine g_getR X fM_19 rfl dX12_slot_124 ?_
      refine g_iload_n X dX12_slot_127 1 rfl ?_
      refine g_iald X aM_19 dX12_slot_128 h (fun v20 h => ?_)
      refine g_join (J := fun jj => ∀ (t21 : St), jj  t21 = some z → gP p l e rm_f_X12_slot s m args below meth c E A 4 (MQ below ((gqI E (gW E r shM) z) A) args s mc ms A) (gW E r shM) 152 [(0, .ref (r 200)), (2, iv y14), (3, iv x15)] [] t21) h (fun  t21 h => ?_) (fun J22 hJ22 h => ?_)
      · refine g_iinc (lv' := [(3, iv (x15 + 1)), (0, .ref (r 200)), (2, iv y14)]) X dX12_slot_152 (k := 2) rfl (by decide) rfl ?_
        refine g_goto (tgt := 112) X dX12_slot_155 (by decide) ?_
        exact g_sub (lv' := [(0, .ref (r 200)), (2, iv y14), (3, iv (x15 + 1))]) [1, 2, 0] rfl (ih (x15 + 1) t21 h)
      refine g_icmp_ne (tgt := 152) X dX12_slot_129 (by decide) h (fun h => ?_) (fun h => ?_)
      · exact g_sub (lv' := [(0, .ref (r 200)), (2, iv y14), (3, iv x15)]) [0, 1, 2] rfl (hJ22 t16 h)
      · refine g_aload_n X dX12_slot_132 0 rfl ?_
        refine g_getR X fM_20 rfl dX12_slot_133 ?_
        refine g_iload_n X dX12_slot_136 2 rfl ?_
        refine g_iald X aM_20 dX12_slot_137 h (fun v23 h => ?_)
        refine g_aload_n X dX12_slot_138 0 rfl ?_
        refine g_getI X fM_5 rfl dX12_slot_139 h (fun v24 h => ?_)
        refine g_icmp_ne (tgt := 152) X dX12_slot_142 (by decide) h (fun h => ?_) (fun h => ?_)
        · exact g_sub (lv' := [(0, .ref (r 200)), (2, iv y14), (3, iv x15)]) [0, 1, 2] rfl (hJ22 t16 h)
        · exact g_sub (lv' := [(0, .ref (r 200))]) [0] rfl (hK17 t16 h)
set_option maxHeartbeats 4000000 in
set_option maxRecDepth 100000 in
theorem b_f_X12_slot {p : Program} {l : Launch} {e : Env} {s : State} {m : MethodId} {args : Array Value} {below : List Frame} {meth : Method} {c : Code} {E : cE} {A : Nat → Prop} {r : Nat → Nat} {mc ms : Nat} {z : Int × St} {N : Nat} {a0 : Int} {t : St} (X : gX p s m meth c cX12_slot 4 (some .boolean) yX12_slot args E A) (h : f_X12_slot N a0 t = some z) : gP p l e rm_f_X12_slot s m args below meth c E A 4 (MQ below ((gqI E (gW E r shM) z) A) args s mc ms A) (gW E r shM) 0 [(0, .ref (r 200)), (1, iv a0)] [] t := by
  unfold f_X12_slot at h
  refine g_bipush X dX12_slot_0 (by decide) ?_
  refine g_aload_n X dX12_slot_2 0 rfl ?_
  refine g_getI X fM_14 rfl dX12_slot_3 h (fun v1 h => ?_)
  refine g_imul X dX12_slot_6 ?_
  refine g_iload_n X dX12_slot_7 1 rfl ?_
  refine g_iadd X dX12_slot_8 ?_
  refine g_istore_n (lv' := [(2, iv ((8 * v1) + a0)), (0, .ref (r 200)), (1, iv a0)]) X dX12_slot_9 rfl (by decide) rfl ?_
  refine g_aload_n X dX12_slot_10 1 rfl ?_
  refine g_getI X fM_3 rfl dX12_slot_11 h (fun v2 h => ?_)
  refine g_iconst X dX12_slot_14 ?_
  refine g_icmp_eq (tgt := 24) X dX12_slot_15 (by decide) h (fun h => ?_) (fun h => ?_)
  · refine g_aload_n X dX12_slot_24 1 rfl ?_
    refine g_getI X fM_5 rfl dX12_slot_25 h (fun v3 h => ?_)
    refine g_bipush X dX12_slot_28 (by decide) ?_
    refine g_bipush X dX12_slot_30 (by decide) ?_
    refine g_callsI (rest := []) X (fun u9 h9 => cp_X12_in l E r N v3 (-32) 32 t u9 h9) yy_X12_in wdT_X12_in wdM_RX12_227 rfl rfl (Nat.le_of_ble_eq_true rfl) dX12_slot_32 ⟨by decide, by decide⟩ ⟨rfl, rfl⟩ h (fun v5 t4 h => ?_)
    refine g_if_ne (tgt := 44) X dX12_slot_35 (by decide) h (fun h => ?_) (fun h => ?_)
    · refine g_iload_n X dX12_slot_44 2 rfl ?_
      refine g_bipush X dX12_slot_45 (by decide) ?_
      refine g_icmp_ne (tgt := 56) X dX12_slot_47 (by decide) h (fun h => ?_) (fun h => ?_)
      · refine g_aload_n X dX12_slot_56 1 rfl ?_
        refine g_getR X fM_19 rfl dX12_slot_57 ?_
        refine g_iload_n X dX12_slot_60 0 rfl ?_
        refine g_aload_n X dX12_slot_61 1 rfl ?_
        refine g_getI X fM_5 rfl dX12_slot_62 h (fun v6 h => ?_)
        refine g_iast X aM_19 dX12_slot_65 h (fun t7 h => ?_)
        refine g_aload_n X dX12_slot_66 1 rfl ?_
        refine g_callV (rest := []) X (fun u9 h9 => cp_X12_next l E r N t7 u9 h9) yy_X12_next yi_X12_next wdM_RX12_323 0 12 (gW_at oM) rfl rfl rfl (Nat.le_of_ble_eq_true rfl) dX12_slot_67 ⟨by decide, by decide⟩ ⟨rfl, rfl⟩ h (fun t8 h => ?_)
        refine g_aload_n X dX12_slot_70 1 rfl ?_
        refine g_getI X fM_3 rfl dX12_slot_71 h (fun v9 h => ?_)
        refine g_iconst X dX12_slot_74 ?_
        refine g_icmp_eq (tgt := 84) X dX12_slot_75 (by decide) h (fun h => ?_) (fun h => ?_)
        · refine g_aload_n X dX12_slot_84 1 rfl ?_
          refine g_getI X fM_5 rfl dX12_slot_85 h (fun v10 h => ?_)
          refine g_bipush X dX12_slot_88 (by decide) ?_
          refine g_bipush X dX12_slot_90 (by decide) ?_
          refine g_callsI (rest := []) X (fun u9 h9 => cp_X12_in l E r N v10 (-32) 32 t8 u9 h9) yy_X12_in wdT_X12_in wdM_RX12_227 rfl rfl (Nat.le_of_ble_eq_true rfl) dX12_slot_92 ⟨by decide, by decide⟩ ⟨rfl, rfl⟩ h (fun v12 t11 h => ?_)
          refine g_if_ne (tgt := 104) X dX12_slot_95 (by decide) h (fun h => ?_) (fun h => ?_)
          · refine g_bipush X dX12_slot_104 (by decide) ?_
            refine g_aload_n X dX12_slot_106 1 rfl ?_
            refine g_getI X fM_14 rfl dX12_slot_107 h (fun v13 h => ?_)
            refine g_imul X dX12_slot_110 ?_
            refine g_istore_n (lv' := [(3, iv (8 * v13)), (2, iv ((8 * v1) + a0)), (0, .ref (r 200)), (1, iv a0)]) X dX12_slot_111 rfl (by decide) rfl ?_
            refine g_sub (lv' := [(0, .ref (r 200)), (2, iv ((8 * v1) + a0)), (3, iv (8 * v13))]) [2, 1, 0] rfl (t_f_X12_slot_L112 X (fun t25 h => ?_) (fun t28 h => ?_) N (8 * v13) t11 h)
            · refine g_aload_n X dX12_slot_145 0 rfl ?_
              refine g_bipush X dX12_slot_146 (by decide) ?_
              refine g_callI (rest := []) X (fun u9 h9 => cp_X12_wrong l E r N 7 t25 u9 h9) yy_X12_wrong yi_X12_wrong wdM_RX12_317 0 12 (gW_at oM) rfl rfl rfl (Nat.le_of_ble_eq_true rfl) dX12_slot_148 ⟨by decide, by decide⟩ ⟨rfl, rfl⟩ h (fun v27 t26 h => ?_)
              exact g_zret X h dX12_slot_151
            · refine g_aload_n X dX12_slot_158 0 rfl ?_
              refine g_getR X fM_20 rfl dX12_slot_159 ?_
              refine g_iload_n X dX12_slot_162 1 rfl ?_
              refine g_aload_n X dX12_slot_163 0 rfl ?_
              refine g_getI X fM_5 rfl dX12_slot_164 h (fun v29 h => ?_)
              refine g_iast X aM_20 dX12_slot_167 h (fun t30 h => ?_)
              refine g_aload_n X dX12_slot_168 0 rfl ?_
              refine g_callV (rest := []) X (fun u9 h9 => cp_X12_next l E r N t30 u9 h9) yy_X12_next yi_X12_next wdM_RX12_323 0 12 (gW_at oM) rfl rfl rfl (Nat.le_of_ble_eq_true rfl) dX12_slot_169 ⟨by decide, by decide⟩ ⟨rfl, rfl⟩ h (fun t31 h => ?_)
              refine g_aload_n X dX12_slot_172 0 rfl ?_
              refine g_getI X fM_3 rfl dX12_slot_173 h (fun v32 h => ?_)
              refine g_iconst X dX12_slot_176 ?_
              refine g_join (J := fun jj => ∀ (t33 : St), jj  t33 = some z → gP p l e rm_f_X12_slot s m args below meth c E A 4 (MQ below ((gqI E (gW E r shM) z) A) args s mc ms A) (gW E r shM) 194 [(0, .ref (r 200))] [] t33) h (fun  t33 h => ?_) (fun J34 hJ34 h => ?_)
              · refine g_aload_n X dX12_slot_194 0 rfl ?_
                refine g_iconst X dX12_slot_195 ?_
                refine g_callI (rest := []) X (fun u9 h9 => cp_X12_wrong l E r N 1 t33 u9 h9) yy_X12_wrong yi_X12_wrong wdM_RX12_317 0 12 (gW_at oM) rfl rfl rfl (Nat.le_of_ble_eq_true rfl) dX12_slot_196 ⟨by decide, by decide⟩ ⟨rfl, rfl⟩ h (fun v36 t35 h => ?_)
                exact g_zret X h dX12_slot_199
              refine g_icmp_ne (tgt := 194) X dX12_slot_177 (by decide) h (fun h => ?_) (fun h => ?_)
              · exact g_sub (lv' := [(0, .ref (r 200))]) [0] rfl (hJ34 t31 h)
              · refine g_aload_n X dX12_slot_180 0 rfl ?_
                refine g_getI X fM_5 rfl dX12_slot_181 h (fun v37 h => ?_)
                refine g_bipush X dX12_slot_184 (by decide) ?_
                refine g_bipush X dX12_slot_186 (by decide) ?_
                refine g_callsI (rest := []) X (fun u9 h9 => cp_X12_in l E r N v37 31 35 t31 u9 h9) yy_X12_in wdT_X12_in wdM_RX12_227 rfl rfl (Nat.le_of_ble_eq_true rfl) dX12_slot_188 ⟨by decide, by decide⟩ ⟨rfl, rfl⟩ h (fun v39 t38 h => ?_)
                refine g_if_ne (tgt := 200) X dX12_slot_191 (by decide) h (fun h => ?_) (fun h => ?_)
                · refine g_aload_n X dX12_slot_200 0 rfl ?_
                  refine g_getR X fM_21 rfl dX12_slot_201 ?_
                  refine g_iload_n X dX12_slot_204 1 rfl ?_
                  refine g_aload_n X dX12_slot_205 0 rfl ?_
                  refine g_getI X fM_5 rfl dX12_slot_206 h (fun v40 h => ?_)
                  refine g_bipush X dX12_slot_209 (by decide) ?_
                  refine g_isub X dX12_slot_211 ?_
                  refine g_iast X aM_21 dX12_slot_212 h (fun t41 h => ?_)
                  refine g_aload_n X dX12_slot_213 0 rfl ?_
                  refine g_callV (rest := []) X (fun u9 h9 => cp_X12_next l E r N t41 u9 h9) yy_X12_next yi_X12_next wdM_RX12_323 0 12 (gW_at oM) rfl rfl rfl (Nat.le_of_ble_eq_true rfl) dX12_slot_214 ⟨by decide, by decide⟩ ⟨rfl, rfl⟩ h (fun t42 h => ?_)
                  refine g_aload_n X dX12_slot_217 0 rfl ?_
                  refine g_getR X fM_22 rfl dX12_slot_218 ?_
                  refine g_iload_n X dX12_slot_221 1 rfl ?_
                  refine g_aload_n X dX12_slot_222 0 rfl ?_
                  refine g_bipush X dX12_slot_223 (by decide) ?_
                  refine g_callI (rest := [iv ((8 * v1) + a0), .ref (r 22)]) X (fun u9 h9 => cp_X12_isKey l E r N 36 t42 u9 h9) yy_X12_isKey yi_X12_isKey wdM_RX12_326 0 12 (gW_at oM) rfl rfl rfl (Nat.le_of_ble_eq_true rfl) dX12_slot_225 ⟨by decide, by decide⟩ ⟨rfl, rfl⟩ h (fun v44 t43 h => ?_)
                  refine g_join (J := fun jj => ∀ (j45 : Int) (t46 : St), jj j45 t46 = some z → gP p l e rm_f_X12_slot s m args below meth c E A 4 (MQ below ((gqI E (gW E r shM) z) A) args s mc ms A) (gW E r shM) 249 [(0, .ref (r 200)), (2, iv ((8 * v1) + a0))] [iv j45, iv ((8 * v1) + a0), .ref (r 22)] t46) h (fun j45 t46 h => ?_) (fun J47 hJ47 h => ?_)
                  · refine g_iast X aM_22 dX12_slot_249 h (fun t48 h => ?_)
                    refine g_aload_n X dX12_slot_250 0 rfl ?_
                    refine g_getR X fM_22 rfl dX12_slot_251 ?_
                    refine g_iload_n X dX12_slot_254 1 rfl ?_
                    refine g_iald X aM_22 dX12_slot_255 h (fun v49 h => ?_)
                    refine g_if_le (tgt := 263) X dX12_slot_256 (by decide) h (fun h => ?_) (fun h => ?_)
                    · refine g_iconst X dX12_slot_263 ?_
                      exact g_zret X h dX12_slot_264
                    · refine g_aload_n X dX12_slot_259 0 rfl ?_
                      refine g_callV (rest := []) X (fun u9 h9 => cp_X12_next l E r N t48 u9 h9) yy_X12_next yi_X12_next wdM_RX12_323 0 12 (gW_at oM) rfl rfl rfl (Nat.le_of_ble_eq_true rfl) dX12_slot_260 ⟨by decide, by decide⟩ ⟨rfl, rfl⟩ h (fun t50 h => ?_)
                      refine g_iconst X dX12_slot_263 ?_
                      exact g_zret X h dX12_slot_264
                  refine g_if_eq (tgt := 235) X dX12_slot_228 (by decide) h (fun h => ?_) (fun h => ?_)
                  · refine g_aload_n X dX12_slot_235 0 rfl ?_
                    refine g_bipush X dX12_slot_236 (by decide) ?_
                    refine g_callI (rest := [iv ((8 * v1) + a0), .ref (r 22)]) X (fun u9 h9 => cp_X12_isKey l E r N 37 t43 u9 h9) yy_X12_isKey yi_X12_isKey wdM_RX12_326 0 12 (gW_at oM) rfl rfl rfl (Nat.le_of_ble_eq_true rfl) dX12_slot_238 ⟨by decide, by decide⟩ ⟨rfl, rfl⟩ h (fun v52 t51 h => ?_)
                    refine g_if_eq (tgt := 248) X dX12_slot_241 (by decide) h (fun h => ?_) (fun h => ?_)
                    · refine g_iconst X dX12_slot_248 ?_
                      exact g_sub (lv' := [(0, .ref (r 200)), (2, iv ((8 * v1) + a0))]) [0, 1] rfl (hJ47 0 t51 h)
                    · refine g_iconst X dX12_slot_244 ?_
                      refine g_goto (tgt := 249) X dX12_slot_245 (by decide) ?_
                      exact g_sub (lv' := [(0, .ref (r 200)), (2, iv ((8 * v1) + a0))]) [0, 1] rfl (hJ47 2 t51 h)
                  · refine g_iconst X dX12_slot_231 ?_
                    refine g_goto (tgt := 249) X dX12_slot_232 (by decide) ?_
                    exact g_sub (lv' := [(0, .ref (r 200)), (2, iv ((8 * v1) + a0))]) [0, 1] rfl (hJ47 1 t43 h)
                · exact g_sub (lv' := [(0, .ref (r 200))]) [0] rfl (hJ34 t38 h)
          · refine g_aload_n X dX12_slot_98 1 rfl ?_
            refine g_iconst X dX12_slot_99 ?_
            refine g_callI (rest := []) X (fun u9 h9 => cp_X12_wrong l E r N 4 t11 u9 h9) yy_X12_wrong yi_X12_wrong wdM_RX12_317 0 12 (gW_at oM) rfl rfl rfl (Nat.le_of_ble_eq_true rfl) dX12_slot_100 ⟨by decide, by decide⟩ ⟨rfl, rfl⟩ h (fun v54 t53 h => ?_)
            exact g_zret X h dX12_slot_103
        · refine g_aload_n X dX12_slot_78 1 rfl ?_
          refine g_iconst X dX12_slot_79 ?_
          refine g_callI (rest := []) X (fun u9 h9 => cp_X12_wrong l E r N 1 t8 u9 h9) yy_X12_wrong yi_X12_wrong wdM_RX12_317 0 12 (gW_at oM) rfl rfl rfl (Nat.le_of_ble_eq_true rfl) dX12_slot_80 ⟨by decide, by decide⟩ ⟨rfl, rfl⟩ h (fun v56 t55 h => ?_)
          exact g_zret X h dX12_slot_83
      · refine g_aload_n X dX12_slot_50 1 rfl ?_
        refine g_iconst X dX12_slot_51 ?_
        refine g_callI (rest := []) X (fun u9 h9 => cp_X12_wrong l E r N 5 t4 u9 h9) yy_X12_wrong yi_X12_wrong wdM_RX12_317 0 12 (gW_at oM) rfl rfl rfl (Nat.le_of_ble_eq_true rfl) dX12_slot_52 ⟨by decide, by decide⟩ ⟨rfl, rfl⟩ h (fun v58 t57 h => ?_)
        exact g_zret X h dX12_slot_55
    · refine g_aload_n X dX12_slot_38 1 rfl ?_
      refine g_iconst X dX12_slot_39 ?_
      refine g_callI (rest := []) X (fun u9 h9 => cp_X12_wrong l E r N 4 t4 u9 h9) yy_X12_wrong yi_X12_wrong wdM_RX12_317 0 12 (gW_at oM) rfl rfl rfl (Nat.le_of_ble_eq_true rfl) dX12_slot_40 ⟨by decide, by decide⟩ ⟨rfl, rfl⟩ h (fun v60 t59 h => ?_)
      exact g_zret X h dX12_slot_43
  · refine g_aload_n X dX12_slot_18 1 rfl ?_
    refine g_iconst X dX12_slot_19 ?_
    refine g_callI (rest := []) X (fun u9 h9 => cp_X12_wrong l E r N 1 t u9 h9) yy_X12_wrong yi_X12_wrong wdM_RX12_317 0 12 (gW_at oM) rfl rfl rfl (Nat.le_of_ble_eq_true rfl) dX12_slot_20 ⟨by decide, by decide⟩ ⟨rfl, rfl⟩ h (fun v62 t61 h => ?_)
    exact g_zret X h dX12_slot_23
set_option maxHeartbeats 4000000 in
set_option maxRecDepth 100000 in
theorem cp_X12_slot (l : Launch) (E : cE) (r : Nat → Nat) (N : Nat) (a0 : Int) (t : St) (z : Int × St) (h : f_X12_slot N a0 t = some z) : cM l E yX12_slot cX12_slot 4 (some .boolean) rm_f_X12_slot [.ref (r 200), iv a0] (gW E r shM t) (gqI E (gW E r shM) z) := by
  refine g_of (w := gW E r shM) (by decide) (Nat.le_of_ble_eq_true rfl) ?_
  intro p e s m below meth c A X
  exact g_sub (lv' := [(0, .ref (r 200)), (1, iv a0)]) [0, 1] rfl (b_f_X12_slot X h)
theorem yy_X12_slot : cY yX12_slot cX12_slot 4 (some .boolean) 1 := ⟨wdK_X12_slot, wdZ_RX12, by decide +kernel⟩
theorem yi_X12_slot : cYi yX12_slot := ⟨wdN_X12_slot, wdS_X12_slot⟩
