theorem dX6_isFull_0 : decode cX6_isFull 0 = .ok (.aload_n 0, 1) := by decide +kernel
theorem dX6_isFull_1 : decode cX6_isFull 1 = .ok (.getfield 19, 3) := by decide +kernel
theorem dX6_isFull_4 : decode cX6_isFull 4 = .ok (.aload_n 0, 1) := by decide +kernel
theorem dX6_isFull_5 : decode cX6_isFull 5 = .ok (.getfield 9, 3) := by decide +kernel
theorem dX6_isFull_8 : decode cX6_isFull 8 = .ok (.if_icmp .lt 7, 3) := by decide +kernel
theorem dX6_isFull_11 : decode cX6_isFull 11 = .ok (.iconst 1, 1) := by decide +kernel
theorem dX6_isFull_12 : decode cX6_isFull 12 = .ok (.goto 4, 3) := by decide +kernel
theorem dX6_isFull_15 : decode cX6_isFull 15 = .ok (.iconst 0, 1) := by decide +kernel
theorem dX6_isFull_16 : decode cX6_isFull 16 = .ok (.ireturn, 1) := by decide +kernel
abbrev rm_f_X6_isFull : Room := { frames := 0, cells := 0, slots := 0, locals := 0 }
def f_X6_isFull (N : Nat) (o0 : Nat) (t : St) : Option (Int × St) :=
    lt1 (t.1 (312 + o0) 2) fun v1 =>
    lt1 (t.1 (312 + o0) 1) fun v2 =>
    cmpI v1 v2 (if v1 < v2 then (boI 0 (some (0, t)))
    else (boI 1 (some (1, t))))
set_option maxHeartbeats 4000000 in
set_option maxRecDepth 100000 in
theorem b_f_X6_isFull {p : Program} {l : Launch} {e : Env} {s : State} {m : MethodId} {args : Array Value} {below : List Frame} {meth : Method} {c : Code} {E : cE} {A : Nat → Prop} {r : Nat → Nat} {mc ms : Nat} {z : Int × St} {N : Nat} {o0 : Nat} (ho0 : o0 < 3) {t : St} (X : gX p s m meth c cX6_isFull 1 (some .boolean) yX6_isFull args E A) (h : f_X6_isFull N o0 t = some z) : gP p l e rm_f_X6_isFull s m args below meth c E A 1 (MQ below ((gqI E (gW E r shH) z) A) args s mc ms A) (gW E r shH) 0 [(0, .ref (r (312 + o0)))] [] t := by
  unfold f_X6_isFull at h
  refine g_aload_n X dX6_isFull_0 0 rfl ?_
  refine g_getI X (fH_X6_19_o (o := o0) ho0) rfl dX6_isFull_1 h (fun v1 h => ?_)
  refine g_aload_n X dX6_isFull_4 0 rfl ?_
  refine g_getI X (fH_X6_9_o (o := o0) ho0) rfl dX6_isFull_5 h (fun v2 h => ?_)
  refine g_icmp_lt (tgt := 15) X dX6_isFull_8 (by decide) h (fun h => ?_) (fun h => ?_)
  · refine g_iconst X dX6_isFull_15 ?_
    exact g_zret X h dX6_isFull_16
  · refine g_iconst X dX6_isFull_11 ?_
    refine g_goto (tgt := 16) X dX6_isFull_12 (by decide) ?_
    exact g_zret X h dX6_isFull_16
set_option maxHeartbeats 4000000 in
set_option maxRecDepth 100000 in
theorem cp_X6_isFull (l : Launch) (E : cE) (r : Nat → Nat) (N : Nat) (o0 : Nat) (ho0 : o0 < 3) (t : St) (z : Int × St) (h : f_X6_isFull N o0 t = some z) : cM l E yX6_isFull cX6_isFull 1 (some .boolean) rm_f_X6_isFull [.ref (r (312 + o0))] (gW E r shH t) (gqI E (gW E r shH) z) := by
  refine g_of (w := gW E r shH) (by decide) (Nat.le_of_ble_eq_true rfl) ?_
  intro p e s m below meth c A X
  exact g_sub (lv' := [(0, .ref (r (312 + o0)))]) [0] rfl (b_f_X6_isFull ho0 X h)
theorem yy_X6_isFull : cY yX6_isFull cX6_isFull 1 (some .boolean) 0 := ⟨wdK_X6_isFull, wdZ_RX6, by decide +kernel⟩
theorem yi_X6_isFull : cYi yX6_isFull := ⟨wdN_X6_isFull, wdS_X6_isFull⟩
theorem dX6_find_0 : decode cX6_find 0 = .ok (.iload_n 2, 1) := by decide +kernel
theorem dX6_find_1 : decode cX6_find 1 = .ok (.ifCond .lt 13, 3) := by decide +kernel
theorem dX6_find_4 : decode cX6_find 4 = .ok (.iconst 3, 1) := by decide +kernel
theorem dX6_find_5 : decode cX6_find 5 = .ok (.iload_n 2, 1) := by decide +kernel
theorem dX6_find_6 : decode cX6_find 6 = .ok (.imul, 1) := by decide +kernel
theorem dX6_find_7 : decode cX6_find 7 = .ok (.iconst 2, 1) := by decide +kernel
theorem dX6_find_8 : decode cX6_find 8 = .ok (.iadd, 1) := by decide +kernel
theorem dX6_find_9 : decode cX6_find 9 = .ok (.aload_n 1, 1) := by decide +kernel
theorem dX6_find_10 : decode cX6_find 10 = .ok (.arraylength, 1) := by decide +kernel
theorem dX6_find_11 : decode cX6_find 11 = .ok (.if_icmp .lt 5, 3) := by decide +kernel
theorem dX6_find_14 : decode cX6_find 14 = .ok (.iconst (-1), 1) := by decide +kernel
theorem dX6_find_15 : decode cX6_find 15 = .ok (.ireturn, 1) := by decide +kernel
theorem dX6_find_16 : decode cX6_find 16 = .ok (.iconst 0, 1) := by decide +kernel
theorem dX6_find_17 : decode cX6_find 17 = .ok (.istore_n 3, 1) := by decide +kernel
theorem dX6_find_18 : decode cX6_find 18 = .ok (.iload_n 3, 1) := by decide +kernel
theorem dX6_find_19 : decode cX6_find 19 = .ok (.aload_n 0, 1) := by decide +kernel
theorem dX6_find_20 : decode cX6_find 20 = .ok (.getfield 19, 3) := by decide +kernel
theorem dX6_find_23 : decode cX6_find 23 = .ok (.if_icmp .ge 70, 3) := by decide +kernel
theorem dX6_find_26 : decode cX6_find 26 = .ok (.aload_n 0, 1) := by decide +kernel
theorem dX6_find_27 : decode cX6_find 27 = .ok (.getfield 15, 3) := by decide +kernel
theorem dX6_find_30 : decode cX6_find 30 = .ok (.iconst 3, 1) := by decide +kernel
theorem dX6_find_31 : decode cX6_find 31 = .ok (.iload_n 3, 1) := by decide +kernel
theorem dX6_find_32 : decode cX6_find 32 = .ok (.imul, 1) := by decide +kernel
theorem dX6_find_33 : decode cX6_find 33 = .ok (.laload, 1) := by decide +kernel
theorem dX6_find_34 : decode cX6_find 34 = .ok (.aload_n 1, 1) := by decide +kernel
theorem dX6_find_35 : decode cX6_find 35 = .ok (.iconst 3, 1) := by decide +kernel
theorem dX6_find_36 : decode cX6_find 36 = .ok (.iload_n 2, 1) := by decide +kernel
theorem dX6_find_37 : decode cX6_find 37 = .ok (.imul, 1) := by decide +kernel
theorem dX6_find_38 : decode cX6_find 38 = .ok (.laload, 1) := by decide +kernel
theorem dX6_find_39 : decode cX6_find 39 = .ok (.lcmp, 1) := by decide +kernel
theorem dX6_find_40 : decode cX6_find 40 = .ok (.ifCond .ne 47, 3) := by decide +kernel
theorem dX6_find_43 : decode cX6_find 43 = .ok (.aload_n 0, 1) := by decide +kernel
theorem dX6_find_44 : decode cX6_find 44 = .ok (.getfield 15, 3) := by decide +kernel
theorem dX6_find_47 : decode cX6_find 47 = .ok (.iconst 3, 1) := by decide +kernel
theorem dX6_find_48 : decode cX6_find 48 = .ok (.iload_n 3, 1) := by decide +kernel
theorem dX6_find_49 : decode cX6_find 49 = .ok (.imul, 1) := by decide +kernel
theorem dX6_find_50 : decode cX6_find 50 = .ok (.iconst 1, 1) := by decide +kernel
theorem dX6_find_51 : decode cX6_find 51 = .ok (.iadd, 1) := by decide +kernel
theorem dX6_find_52 : decode cX6_find 52 = .ok (.laload, 1) := by decide +kernel
theorem dX6_find_53 : decode cX6_find 53 = .ok (.aload_n 1, 1) := by decide +kernel
theorem dX6_find_54 : decode cX6_find 54 = .ok (.iconst 3, 1) := by decide +kernel
theorem dX6_find_55 : decode cX6_find 55 = .ok (.iload_n 2, 1) := by decide +kernel
theorem dX6_find_56 : decode cX6_find 56 = .ok (.imul, 1) := by decide +kernel
theorem dX6_find_57 : decode cX6_find 57 = .ok (.iconst 1, 1) := by decide +kernel
theorem dX6_find_58 : decode cX6_find 58 = .ok (.iadd, 1) := by decide +kernel
theorem dX6_find_59 : decode cX6_find 59 = .ok (.laload, 1) := by decide +kernel
theorem dX6_find_60 : decode cX6_find 60 = .ok (.lcmp, 1) := by decide +kernel
theorem dX6_find_61 : decode cX6_find 61 = .ok (.ifCond .ne 26, 3) := by decide +kernel
theorem dX6_find_64 : decode cX6_find 64 = .ok (.aload_n 0, 1) := by decide +kernel
theorem dX6_find_65 : decode cX6_find 65 = .ok (.getfield 15, 3) := by decide +kernel
theorem dX6_find_68 : decode cX6_find 68 = .ok (.iconst 3, 1) := by decide +kernel
theorem dX6_find_69 : decode cX6_find 69 = .ok (.iload_n 3, 1) := by decide +kernel
theorem dX6_find_70 : decode cX6_find 70 = .ok (.imul, 1) := by decide +kernel
theorem dX6_find_71 : decode cX6_find 71 = .ok (.iconst 2, 1) := by decide +kernel
theorem dX6_find_72 : decode cX6_find 72 = .ok (.iadd, 1) := by decide +kernel
theorem dX6_find_73 : decode cX6_find 73 = .ok (.laload, 1) := by decide +kernel
theorem dX6_find_74 : decode cX6_find 74 = .ok (.aload_n 1, 1) := by decide +kernel
theorem dX6_find_75 : decode cX6_find 75 = .ok (.iconst 3, 1) := by decide +kernel
theorem dX6_find_76 : decode cX6_find 76 = .ok (.iload_n 2, 1) := by decide +kernel
theorem dX6_find_77 : decode cX6_find 77 = .ok (.imul, 1) := by decide +kernel
theorem dX6_find_78 : decode cX6_find 78 = .ok (.iconst 2, 1) := by decide +kernel
theorem dX6_find_79 : decode cX6_find 79 = .ok (.iadd, 1) := by decide +kernel
theorem dX6_find_80 : decode cX6_find 80 = .ok (.laload, 1) := by decide +kernel
theorem dX6_find_81 : decode cX6_find 81 = .ok (.lcmp, 1) := by decide +kernel
theorem dX6_find_82 : decode cX6_find 82 = .ok (.ifCond .ne 5, 3) := by decide +kernel
theorem dX6_find_85 : decode cX6_find 85 = .ok (.iload_n 3, 1) := by decide +kernel
theorem dX6_find_86 : decode cX6_find 86 = .ok (.ireturn, 1) := by decide +kernel
theorem dX6_find_87 : decode cX6_find 87 = .ok (.iinc 3 1, 3) := by decide +kernel
theorem dX6_find_90 : decode cX6_find 90 = .ok (.goto (-72), 3) := by decide +kernel
theorem dX6_find_93 : decode cX6_find 93 = .ok (.iconst (-1), 1) := by decide +kernel
theorem dX6_find_94 : decode cX6_find 94 = .ok (.ireturn, 1) := by decide +kernel
abbrev rm_f_X6_find : Room := { frames := 0, cells := 0, slots := 0, locals := 0 }
def f_X6_find_L18 (o0 : Nat) (q0 : Nat) (n0 : Nat) (K4 : (St → Option (Int × St))) (y1 : Int) : Nat → Int → St → Option (Int × St)
  | 0, _, _ => none
  | n9 + 1, x2, t3 =>
    lt1 (t3.1 (312 + o0) 2) fun v5 =>
    cmpI x2 v5 (if x2 < v5 then (ixI (3 * x2) (nmL o0) (lt1 (t3.2 (340 + o0) (3 * x2).toNat) fun v6 =>
    ixI (3 * y1) n0 (lt1 (t3.2 q0 (3 * y1).toNat) fun v7 =>
    jn1 (fun (t8 : St) => f_X6_find_L18 o0 q0 n0 K4 y1 n9 (x2 + 1) t8) fun J9 =>
    (if v6 = v7 then (ixI ((3 * x2) + 1) (nmL o0) (lt1 (t3.2 (340 + o0) ((3 * x2) + 1).toNat) fun v10 =>
    ixI ((3 * y1) + 1) n0 (lt1 (t3.2 q0 ((3 * y1) + 1).toNat) fun v11 =>
    (if v10 = v11 then (ixI ((3 * x2) + 2) (nmL o0) (lt1 (t3.2 (340 + o0) ((3 * x2) + 2).toNat) fun v12 =>
    ixI ((3 * y1) + 2) n0 (lt1 (t3.2 q0 ((3 * y1) + 2).toNat) fun v13 =>
    (if v12 = v13 then (some (x2, t3))
    else (J9 t3)))))
    else (J9 t3)))))
    else (J9 t3)))))
    else (K4 t3))
def f_X6_find (N : Nat) (o0 : Nat) (q0 : Nat) (n0 : Nat) (a1 : Int) (t : St) : Option (Int × St) :=
    cmpI a1 0 (if a1 < 0 then (some ((-1), t))
    else (cmpI ((3 * a1) + 2) ((n0 : Nat) : Int) (if ((3 * a1) + 2) < ((n0 : Nat) : Int) then (f_X6_find_L18 o0 q0 n0 (fun (t14 : St) => some ((-1), t14)) a1 N 0 t)
    else (some ((-1), t)))))
set_option maxHeartbeats 4000000 in
set_option maxRecDepth 100000 in
theorem t_f_X6_find_L18 {p : Program} {l : Launch} {e : Env} {s : State} {m : MethodId} {args : Array Value} {below : List Frame} {meth : Method} {c : Code} {E : cE} {A : Nat → Prop} {r : Nat → Nat} {mc ms : Nat} {z : Int × St} {o0 : Nat} (ho0 : o0 < 3) {q0 n0 : Nat} (hq0 : gA shH q0 2 n0) {K4 : (St → Option (Int × St))} {y1 : Int} (X : gX p s m meth c cX6_find 4 (some .int) yX6_find args E A) (hK4 : ∀ (t9 : St), K4 t9 = some z → gP p l e rm_f_X6_find s m args below meth c E A 4 (MQ below ((gqI E (gW E r shH) z) A) args s mc ms A) (gW E r shH) 93 [] [] t9) : ∀ (n9 : Nat) (x2 : Int) (t3 : St), f_X6_find_L18 o0 q0 n0 K4 y1 n9 x2 t3 = some z → gP p l e rm_f_X6_find s m args below meth c E A 4 (MQ below ((gqI E (gW E r shH) z) A) args s mc ms A) (gW E r shH) 18 [(0, .ref (r (312 + o0))), (1, .ref (r q0)), (2, iv y1), (3, iv x2)] [] t3 := by
  intro n9
  induction n9 with
  | zero => intro x2 t3 h; cases h
  | succ n9 ih =>
    intro x2 t3 h
    unfold f_X6_find_L18 at h
    refine g_iload_n X dX6_find_18 3 rfl ?_
    refine g_aload_n X dX6_find_19 0 rfl ?_
    refine g_getI X (fH_X6_19_o (o := o0) ho0) rfl dX6_find_20 h (fun v5 h => ?_)
    refine g_icmp_ge (tgt := 93) X dX6_find_23 (by decide) h (fun h => ?_) (fun h => ?_)
    · exact g_sub (lv' := []) [] rfl (hK4 t3 h)
    · refine g_aload_n X dX6_find_26 0 rfl ?_
      refine g_getR X (fH_X6_15_o (o := o0) ho0) rfl dX6_find_27 ?_
      refine g_iconst X dX6_find_30 ?_
      refine g_iload_n X dX6_find_31 3 rfl ?_
      refine g_imul X dX6_find_32 ?_
      refine g_lald X (aN (o := o0) ho0) dX6_find_33 h (fun v6 h => ?_)
      refine g_aload_n X dX6_find_34 1 rfl ?_
      refine g_iconst X dX6_find_35 ?_
      refine g_iload_n X dX6_find_36 2 rfl ?_
      refine g_imul X dX6_find_37 ?_
      refine g_lald X hq0 dX6_find_38 h (fun v7 h => ?_)
      refine g_join (J := fun jj => ∀ (t8 : St), jj  t8 = some z → gP p l e rm_f_X6_find s m args below meth c E A 4 (MQ below ((gqI E (gW E r shH) z) A) args s mc ms A) (gW E r shH) 87 [(0, .ref (r (312 + o0))), (1, .ref (r q0)), (2, iv y1), (3, iv x2)] [] t8) h (fun  t8 h => ?_) (fun J9 hJ9 h => ?_)
      · refine g_iinc (lv' := [(3, iv (x2 + 1)), (0, .ref (r (312 + o0))), (1, .ref (r q0)), (2, iv y1)]) X dX6_find_87 (k := 3) rfl (by decide) rfl ?_
        refine g_goto (tgt := 18) X dX6_find_90 (by decide) ?_
        exact g_sub (lv' := [(0, .ref (r (312 + o0))), (1, .ref (r q0)), (2, iv y1), (3, iv (x2 + 1))]) [1, 2, 3, 0] rfl (ih (x2 + 1) t8 h)
      refine g_lcmp_ne (tgt := 87) X dX6_find_39 dX6_find_40 (by decide) h (fun h => ?_) (fun h => ?_)
      · exact g_sub (lv' := [(0, .ref (r (312 + o0))), (1, .ref (r q0)), (2, iv y1), (3, iv x2)]) [0, 1, 2, 3] rfl (hJ9 t3 h)
      · refine g_aload_n X dX6_find_43 0 rfl ?_
        refine g_getR X (fH_X6_15_o (o := o0) ho0) rfl dX6_find_44 ?_
        refine g_iconst X dX6_find_47 ?_
        refine g_iload_n X dX6_find_48 3 rfl ?_
        refine g_imul X dX6_find_49 ?_
        refine g_iconst X dX6_find_50 ?_
        refine g_iadd X dX6_find_51 ?_
        refine g_lald X (aN (o := o0) ho0) dX6_find_52 h (fun v10 h => ?_)
        refine g_aload_n X dX6_find_53 1 rfl ?_
        refine g_iconst X dX6_find_54 ?_
        refine g_iload_n X dX6_find_55 2 rfl ?_
        refine g_imul X dX6_find_56 ?_
        refine g_iconst X dX6_find_57 ?_
        refine g_iadd X dX6_find_58 ?_
        refine g_lald X hq0 dX6_find_59 h (fun v11 h => ?_)
        refine g_lcmp_ne (tgt := 87) X dX6_find_60 dX6_find_61 (by decide) h (fun h => ?_) (fun h => ?_)
        · exact g_sub (lv' := [(0, .ref (r (312 + o0))), (1, .ref (r q0)), (2, iv y1), (3, iv x2)]) [0, 1, 2, 3] rfl (hJ9 t3 h)
        · refine g_aload_n X dX6_find_64 0 rfl ?_
          refine g_getR X (fH_X6_15_o (o := o0) ho0) rfl dX6_find_65 ?_
          refine g_iconst X dX6_find_68 ?_
          refine g_iload_n X dX6_find_69 3 rfl ?_
          refine g_imul X dX6_find_70 ?_
          refine g_iconst X dX6_find_71 ?_
          refine g_iadd X dX6_find_72 ?_
          refine g_lald X (aN (o := o0) ho0) dX6_find_73 h (fun v12 h => ?_)
          refine g_aload_n X dX6_find_74 1 rfl ?_
          refine g_iconst X dX6_find_75 ?_
          refine g_iload_n X dX6_find_76 2 rfl ?_
          refine g_imul X dX6_find_77 ?_
          refine g_iconst X dX6_find_78 ?_
          refine g_iadd X dX6_find_79 ?_
          refine g_lald X hq0 dX6_find_80 h (fun v13 h => ?_)
          refine g_lcmp_ne (tgt := 87) X dX6_find_81 dX6_find_82 (by decide) h (fun h => ?_) (fun h => ?_)
          · exact g_sub (lv' := [(0, .ref (r (312 + o0))), (1, .ref (r q0)), (2, iv y1), (3, iv x2)]) [0, 1, 2, 3] rfl (hJ9 t3 h)
          · refine g_iload_n X dX6_find_85 3 rfl ?_
            exact g_iret X h dX6_find_86
set_option maxHeartbeats 4000000 in
set_option maxRecDepth 100000 in
theorem b_f_X6_find {p : Program} {l : Launch} {e : Env} {s : State} {m : MethodId} {args : Array Value} {below : List Frame} {meth : Method} {c : Code} {E : cE} {A : Nat → Prop} {r : Nat → Nat} {mc ms : Nat} {z : Int × St} {N : Nat} {o0 : Nat} (ho0 : o0 < 3) {q0 n0 : Nat} (hq0 : gA shH q0 2 n0) {a1 : Int} {t : St} (X : gX p s m meth c cX6_find 4 (some .int) yX6_find args E A) (h : f_X6_find N o0 q0 n0 a1 t = some z) : gP p l e rm_f_X6_find s m args below meth c E A 4 (MQ below ((gqI E (gW E r shH) z) A) args s mc ms A) (gW E r shH) 0 [(0, .ref (r (312 + o0))), (1, .ref (r q0)), (2, iv a1)] [] t := by
  unfold f_X6_find at h
  refine g_iload_n X dX6_find_0 2 rfl ?_
  refine g_if_lt (tgt := 14) X dX6_find_1 (by decide) h (fun h => ?_) (fun h => ?_)
  · refine g_iconst X dX6_find_14 ?_
    exact g_iret X h dX6_find_15
  · refine g_iconst X dX6_find_4 ?_
    refine g_iload_n X dX6_find_5 2 rfl ?_
    refine g_imul X dX6_find_6 ?_
    refine g_iconst X dX6_find_7 ?_
    refine g_iadd X dX6_find_8 ?_
    refine g_aload_n X dX6_find_9 1 rfl ?_
    refine g_alen2 X hq0 dX6_find_10 ?_
    refine g_icmp_lt (tgt := 16) X dX6_find_11 (by decide) h (fun h => ?_) (fun h => ?_)
    · refine g_iconst X dX6_find_16 ?_
      refine g_istore_n (lv' := [(3, iv 0), (0, .ref (r (312 + o0))), (1, .ref (r q0)), (2, iv a1)]) X dX6_find_17 rfl (by decide) rfl ?_
      refine g_sub (lv' := [(0, .ref (r (312 + o0))), (1, .ref (r q0)), (2, iv a1), (3, iv 0)]) [1, 2, 3, 0] rfl (t_f_X6_find_L18 ho0 hq0 X (fun t14 h => ?_) N 0 t h)
      · refine g_iconst X dX6_find_93 ?_
        exact g_iret X h dX6_find_94
    · refine g_iconst X dX6_find_14 ?_
      exact g_iret X h dX6_find_15
set_option maxHeartbeats 4000000 in
set_option maxRecDepth 100000 in
theorem cp_X6_find (l : Launch) (E : cE) (r : Nat → Nat) (N : Nat) (o0 : Nat) (ho0 : o0 < 3) (q0 n0 : Nat) (hq0 : gA shH q0 2 n0) (a1 : Int) (t : St) (z : Int × St) (h : f_X6_find N o0 q0 n0 a1 t = some z) : cM l E yX6_find cX6_find 4 (some .int) rm_f_X6_find [.ref (r (312 + o0)), .ref (r q0), iv a1] (gW E r shH t) (gqI E (gW E r shH) z) := by
  refine g_of (w := gW E r shH) (by decide) (Nat.le_of_ble_eq_true rfl) ?_
  intro p e s m below meth c A X
  exact g_sub (lv' := [(0, .ref (r (312 + o0))), (1, .ref (r q0)), (2, iv a1)]) [0, 1, 2] rfl (b_f_X6_find ho0 hq0 X h)
theorem yy_X6_find : cY yX6_find cX6_find 4 (some .int) 2 := ⟨wdK_X6_find, wdZ_RX6, by decide +kernel⟩
theorem yi_X6_find : cYi yX6_find := ⟨wdN_X6_find, wdS_X6_find⟩
theorem dX6_add_0 : decode cX6_add 0 = .ok (.aload_n 0, 1) := by decide +kernel
theorem dX6_add_1 : decode cX6_add 1 = .ok (.getfield 19, 3) := by decide +kernel
theorem dX6_add_4 : decode cX6_add 4 = .ok (.aload_n 0, 1) := by decide +kernel
theorem dX6_add_5 : decode cX6_add 5 = .ok (.getfield 9, 3) := by decide +kernel
theorem dX6_add_8 : decode cX6_add 8 = .ok (.if_icmp .ge 45, 3) := by decide +kernel
theorem dX6_add_11 : decode cX6_add 11 = .ok (.iload_n 2, 1) := by decide +kernel
theorem dX6_add_12 : decode cX6_add 12 = .ok (.ifCond .lt 41, 3) := by decide +kernel
theorem dX6_add_15 : decode cX6_add 15 = .ok (.iconst 3, 1) := by decide +kernel
theorem dX6_add_16 : decode cX6_add 16 = .ok (.iload_n 2, 1) := by decide +kernel
theorem dX6_add_17 : decode cX6_add 17 = .ok (.imul, 1) := by decide +kernel
theorem dX6_add_18 : decode cX6_add 18 = .ok (.iconst 2, 1) := by decide +kernel
theorem dX6_add_19 : decode cX6_add 19 = .ok (.iadd, 1) := by decide +kernel
theorem dX6_add_20 : decode cX6_add 20 = .ok (.aload_n 1, 1) := by decide +kernel
theorem dX6_add_21 : decode cX6_add 21 = .ok (.arraylength, 1) := by decide +kernel
theorem dX6_add_22 : decode cX6_add 22 = .ok (.if_icmp .ge 31, 3) := by decide +kernel
theorem dX6_add_25 : decode cX6_add 25 = .ok (.aload_n 1, 1) := by decide +kernel
theorem dX6_add_26 : decode cX6_add 26 = .ok (.iconst 3, 1) := by decide +kernel
theorem dX6_add_27 : decode cX6_add 27 = .ok (.iload_n 2, 1) := by decide +kernel
theorem dX6_add_28 : decode cX6_add 28 = .ok (.imul, 1) := by decide +kernel
theorem dX6_add_29 : decode cX6_add 29 = .ok (.aload_n 0, 1) := by decide +kernel
theorem dX6_add_30 : decode cX6_add 30 = .ok (.getfield 15, 3) := by decide +kernel
theorem dX6_add_33 : decode cX6_add 33 = .ok (.iconst 3, 1) := by decide +kernel
theorem dX6_add_34 : decode cX6_add 34 = .ok (.aload_n 0, 1) := by decide +kernel
theorem dX6_add_35 : decode cX6_add 35 = .ok (.getfield 19, 3) := by decide +kernel
theorem dX6_add_38 : decode cX6_add 38 = .ok (.imul, 1) := by decide +kernel
theorem dX6_add_39 : decode cX6_add 39 = .ok (.iconst 3, 1) := by decide +kernel
theorem dX6_add_40 : decode cX6_add 40 = .ok (.invokestatic 22, 3) := by decide +kernel
theorem dX6_add_43 : decode cX6_add 43 = .ok (.aload_n 0, 1) := by decide +kernel
theorem dX6_add_44 : decode cX6_add 44 = .ok (.dup, 1) := by decide +kernel
theorem dX6_add_45 : decode cX6_add 45 = .ok (.getfield 19, 3) := by decide +kernel
theorem dX6_add_48 : decode cX6_add 48 = .ok (.iconst 1, 1) := by decide +kernel
theorem dX6_add_49 : decode cX6_add 49 = .ok (.iadd, 1) := by decide +kernel
theorem dX6_add_50 : decode cX6_add 50 = .ok (.putfield 19, 3) := by decide +kernel
theorem dX6_add_53 : decode cX6_add 53 = .ok (.return_, 1) := by decide +kernel
abbrev rm_f_X6_add : Room := { frames := 1, cells := 0, slots := 0, locals := 60 }
def f_X6_add (N : Nat) (o0 : Nat) (q0 : Nat) (n0 : Nat) (a1 : Int) (t : St) : Option (St) :=
    lt1 (t.1 (312 + o0) 2) fun v1 =>
    lt1 (t.1 (312 + o0) 1) fun v2 =>
    cmpI v1 v2 (if v1 < v2 then (cmpI a1 0 (if a1 < 0 then (some t)
    else (cmpI ((3 * a1) + 2) ((n0 : Nat) : Int) (if ((3 * a1) + 2) < ((n0 : Nat) : Int) then (lt1 (t.1 (312 + o0) 2) fun v3 =>
    cpI (3 * a1) (3 * v3) 3 n0 (nmL o0) (lt1 (cpL t q0 (340 + o0) (3 * a1).toNat (3 * v3).toNat (3 : Int).toNat) fun t4 =>
    lt1 (t4.1 (312 + o0) 2) fun v5 =>
    lt1 (pI t4 (312 + o0) 2 (v5 + 1)) fun t6 =>
    some t6))
    else (some t)))))
    else (some t))
set_option maxHeartbeats 4000000 in
set_option maxRecDepth 100000 in
theorem b_f_X6_add {p : Program} {l : Launch} {e : Env} {s : State} {m : MethodId} {args : Array Value} {below : List Frame} {meth : Method} {c : Code} {E : cE} {A : Nat → Prop} {r : Nat → Nat} {mc ms : Nat} {z : St} {N : Nat} {o0 : Nat} (ho0 : o0 < 3) {q0 n0 : Nat} (hq0 : gA shH q0 2 n0) {a1 : Int} {t : St} (X : gX p s m meth c cX6_add 3 none yX6_add args E A) (h : f_X6_add N o0 q0 n0 a1 t = some z) : gP p l e rm_f_X6_add s m args below meth c E A 3 (MQ below ((gqV E (gW E r shH) z) A) args s mc ms A) (gW E r shH) 0 [(0, .ref (r (312 + o0))), (1, .ref (r q0)), (2, iv a1)] [] t := by
  unfold f_X6_add at h
  refine g_aload_n X dX6_add_0 0 rfl ?_
  refine g_getI X (fH_X6_19_o (o := o0) ho0) rfl dX6_add_1 h (fun v1 h => ?_)
  refine g_aload_n X dX6_add_4 0 rfl ?_
  refine g_getI X (fH_X6_9_o (o := o0) ho0) rfl dX6_add_5 h (fun v2 h => ?_)
  refine g_icmp_ge (tgt := 53) X dX6_add_8 (by decide) h (fun h => ?_) (fun h => ?_)
  · exact g_vret X h dX6_add_53
  · refine g_iload_n X dX6_add_11 2 rfl ?_
    refine g_if_lt (tgt := 53) X dX6_add_12 (by decide) h (fun h => ?_) (fun h => ?_)
    · exact g_vret X h dX6_add_53
    · refine g_iconst X dX6_add_15 ?_
      refine g_iload_n X dX6_add_16 2 rfl ?_
      refine g_imul X dX6_add_17 ?_
      refine g_iconst X dX6_add_18 ?_
      refine g_iadd X dX6_add_19 ?_
      refine g_aload_n X dX6_add_20 1 rfl ?_
      refine g_alen2 X hq0 dX6_add_21 ?_
      refine g_icmp_ge (tgt := 53) X dX6_add_22 (by decide) h (fun h => ?_) (fun h => ?_)
      · exact g_vret X h dX6_add_53
      · refine g_aload_n X dX6_add_25 1 rfl ?_
        refine g_iconst X dX6_add_26 ?_
        refine g_iload_n X dX6_add_27 2 rfl ?_
        refine g_imul X dX6_add_28 ?_
        refine g_aload_n X dX6_add_29 0 rfl ?_
        refine g_getR X (fH_X6_15_o (o := o0) ho0) rfl dX6_add_30 ?_
        refine g_iconst X dX6_add_33 ?_
        refine g_aload_n X dX6_add_34 0 rfl ?_
        refine g_getI X (fH_X6_19_o (o := o0) ho0) rfl dX6_add_35 h (fun v3 h => ?_)
        refine g_imul X dX6_add_38 ?_
        refine g_iconst X dX6_add_39 ?_
        refine g_copyL X hq0 (aN (o := o0) ho0) wdM_RX6_22 (by decide) (Nat.le_of_ble_eq_true rfl) dX6_add_40 h (fun t4 h => ?_)
        refine g_aload_n X dX6_add_43 0 rfl ?_
        refine g_dup X rfl dX6_add_44 ?_
        refine g_getI X (fH_X6_19_o (o := o0) ho0) rfl dX6_add_45 h (fun v5 h => ?_)
        refine g_iconst X dX6_add_48 ?_
        refine g_iadd X dX6_add_49 ?_
        refine g_putI X (fH_X6_19_ow (o := o0) ho0) rfl dX6_add_50 h (fun t6 h => ?_)
        exact g_vret X h dX6_add_53
set_option maxHeartbeats 4000000 in
set_option maxRecDepth 100000 in
theorem cp_X6_add (l : Launch) (E : cE) (r : Nat → Nat) (N : Nat) (o0 : Nat) (ho0 : o0 < 3) (q0 n0 : Nat) (hq0 : gA shH q0 2 n0) (a1 : Int) (t : St) (z : St) (h : f_X6_add N o0 q0 n0 a1 t = some z) : cM l E yX6_add cX6_add 3 none rm_f_X6_add [.ref (r (312 + o0)), .ref (r q0), iv a1] (gW E r shH t) (gqV E (gW E r shH) z) := by
  refine g_of (w := gW E r shH) (by decide) (Nat.le_of_ble_eq_true rfl) ?_
  intro p e s m below meth c A X
  exact g_sub (lv' := [(0, .ref (r (312 + o0))), (1, .ref (r q0)), (2, iv a1)]) [0, 1, 2] rfl (b_f_X6_add ho0 hq0 X h)
theorem yy_X6_add : cY yX6_add cX6_add 3 none 2 := ⟨wdK_X6_add, wdZ_RX6, by decide +kernel⟩
theorem yi_X6_add : cYi yX6_add := ⟨wdN_X6_add, wdS_X6_add⟩
theorem dX7_save_0 : decode cX7_save 0 = .ok (.aload_n 0, 1) := by decide +kernel
theorem dX7_save_1 : decode cX7_save 1 = .ok (.getfield 9, 3) := by decide +kernel
theorem dX7_save_4 : decode cX7_save 4 = .ok (.iconst 0, 1) := by decide +kernel
theorem dX7_save_5 : decode cX7_save 5 = .ok (.aload_n 0, 1) := by decide +kernel
theorem dX7_save_6 : decode cX7_save 6 = .ok (.getfield 19, 3) := by decide +kernel
theorem dX7_save_9 : decode cX7_save 9 = .ok (.getfield 103, 3) := by decide +kernel
theorem dX7_save_12 : decode cX7_save 12 = .ok (.getfield 107, 3) := by decide +kernel
theorem dX7_save_15 : decode cX7_save 15 = .ok (.iastore, 1) := by decide +kernel
theorem dX7_save_16 : decode cX7_save 16 = .ok (.aload_n 0, 1) := by decide +kernel
theorem dX7_save_17 : decode cX7_save 17 = .ok (.getfield 9, 3) := by decide +kernel
theorem dX7_save_20 : decode cX7_save 20 = .ok (.iconst 1, 1) := by decide +kernel
theorem dX7_save_21 : decode cX7_save 21 = .ok (.aload_n 0, 1) := by decide +kernel
theorem dX7_save_22 : decode cX7_save 22 = .ok (.getfield 19, 3) := by decide +kernel
theorem dX7_save_25 : decode cX7_save 25 = .ok (.getfield 110, 3) := by decide +kernel
theorem dX7_save_28 : decode cX7_save 28 = .ok (.getfield 107, 3) := by decide +kernel
theorem dX7_save_31 : decode cX7_save 31 = .ok (.iastore, 1) := by decide +kernel
theorem dX7_save_32 : decode cX7_save 32 = .ok (.aload_n 0, 1) := by decide +kernel
theorem dX7_save_33 : decode cX7_save 33 = .ok (.getfield 9, 3) := by decide +kernel
theorem dX7_save_36 : decode cX7_save 36 = .ok (.iconst 2, 1) := by decide +kernel
theorem dX7_save_37 : decode cX7_save 37 = .ok (.aload_n 0, 1) := by decide +kernel
theorem dX7_save_38 : decode cX7_save 38 = .ok (.getfield 19, 3) := by decide +kernel
theorem dX7_save_41 : decode cX7_save 41 = .ok (.getfield 113, 3) := by decide +kernel
theorem dX7_save_44 : decode cX7_save 44 = .ok (.getfield 107, 3) := by decide +kernel
theorem dX7_save_47 : decode cX7_save 47 = .ok (.iastore, 1) := by decide +kernel
theorem dX7_save_48 : decode cX7_save 48 = .ok (.aload_n 0, 1) := by decide +kernel
theorem dX7_save_49 : decode cX7_save 49 = .ok (.getfield 9, 3) := by decide +kernel
theorem dX7_save_52 : decode cX7_save 52 = .ok (.iconst 3, 1) := by decide +kernel
theorem dX7_save_53 : decode cX7_save 53 = .ok (.aload_n 0, 1) := by decide +kernel
theorem dX7_save_54 : decode cX7_save 54 = .ok (.getfield 19, 3) := by decide +kernel
theorem dX7_save_57 : decode cX7_save 57 = .ok (.getfield 116, 3) := by decide +kernel
theorem dX7_save_60 : decode cX7_save 60 = .ok (.iastore, 1) := by decide +kernel
theorem dX7_save_61 : decode cX7_save 61 = .ok (.aload_n 0, 1) := by decide +kernel
theorem dX7_save_62 : decode cX7_save 62 = .ok (.getfield 9, 3) := by decide +kernel
theorem dX7_save_65 : decode cX7_save 65 = .ok (.iconst 4, 1) := by decide +kernel
theorem dX7_save_66 : decode cX7_save 66 = .ok (.aload_n 0, 1) := by decide +kernel
theorem dX7_save_67 : decode cX7_save 67 = .ok (.getfield 19, 3) := by decide +kernel
theorem dX7_save_70 : decode cX7_save 70 = .ok (.getfield 119, 3) := by decide +kernel
theorem dX7_save_73 : decode cX7_save 73 = .ok (.iastore, 1) := by decide +kernel
theorem dX7_save_74 : decode cX7_save 74 = .ok (.aload_n 0, 1) := by decide +kernel
theorem dX7_save_75 : decode cX7_save 75 = .ok (.getfield 9, 3) := by decide +kernel
theorem dX7_save_78 : decode cX7_save 78 = .ok (.iconst 5, 1) := by decide +kernel
theorem dX7_save_79 : decode cX7_save 79 = .ok (.aload_n 0, 1) := by decide +kernel
theorem dX7_save_80 : decode cX7_save 80 = .ok (.getfield 19, 3) := by decide +kernel
theorem dX7_save_83 : decode cX7_save 83 = .ok (.getfield 122, 3) := by decide +kernel
theorem dX7_save_86 : decode cX7_save 86 = .ok (.iastore, 1) := by decide +kernel
theorem dX7_save_87 : decode cX7_save 87 = .ok (.return_, 1) := by decide +kernel
abbrev rm_f_X7_save : Room := { frames := 0, cells := 0, slots := 0, locals := 0 }
def f_X7_save (N : Nat) (t : St) : Option (St) :=
    lt1 (t.1 (312 + 0) 2) fun v1 =>
    ixI 0 6 (lt1 (pI t 365 (0 : Int).toNat v1) fun t2 =>
    lt1 (t2.1 (312 + 1) 2) fun v3 =>
    ixI 1 6 (lt1 (pI t2 365 (1 : Int).toNat v3) fun t4 =>
    lt1 (t4.1 (312 + 2) 2) fun v5 =>
    ixI 2 6 (lt1 (pI t4 365 (2 : Int).toNat v5) fun t6 =>
    lt1 (t6.1 302 16) fun v7 =>
    ixI 3 6 (lt1 (pI t6 365 (3 : Int).toNat v7) fun t8 =>
    lt1 (t8.1 302 18) fun v9 =>
    ixI 4 6 (lt1 (pI t8 365 (4 : Int).toNat v9) fun t10 =>
    lt1 (t10.1 302 19) fun v11 =>
    ixI 5 6 (lt1 (pI t10 365 (5 : Int).toNat v11) fun t12 =>
    some t12))))))
set_option maxHeartbeats 4000000 in
set_option maxRecDepth 100000 in
theorem b_f_X7_save {p : Program} {l : Launch} {e : Env} {s : State} {m : MethodId} {args : Array Value} {below : List Frame} {meth : Method} {c : Code} {E : cE} {A : Nat → Prop} {r : Nat → Nat} {mc ms : Nat} {z : St} {N : Nat} {t : St} (X : gX p s m meth c cX7_save 1 none yX7_save args E A) (h : f_X7_save N t = some z) : gP p l e rm_f_X7_save s m args below meth c E A 1 (MQ below ((gqV E (gW E r shH) z) A) args s mc ms A) (gW E r shH) 0 [(0, .ref (r 303))] [] t := by
  unfold f_X7_save at h
  refine g_aload_n X dX7_save_0 0 rfl ?_
  refine g_getR X fH_X7_9_303 rfl dX7_save_1 ?_
  refine g_iconst X dX7_save_4 ?_
  refine g_aload_n X dX7_save_5 0 rfl ?_
  refine g_getR X fH_X7_19_303 rfl dX7_save_6 ?_
  refine g_getR X fH_X7_103_302 rfl dX7_save_9 ?_
  refine g_getI X (fH_X7_107_o (o := 0) (by decide)) rfl dX7_save_12 h (fun v1 h => ?_)
  refine g_iast X aH_365 dX7_save_15 h (fun t2 h => ?_)
  refine g_aload_n X dX7_save_16 0 rfl ?_
  refine g_getR X fH_X7_9_303 rfl dX7_save_17 ?_
  refine g_iconst X dX7_save_20 ?_
  refine g_aload_n X dX7_save_21 0 rfl ?_
  refine g_getR X fH_X7_19_303 rfl dX7_save_22 ?_
  refine g_getR X fH_X7_110_302 rfl dX7_save_25 ?_
  refine g_getI X (fH_X7_107_o (o := 1) (by decide)) rfl dX7_save_28 h (fun v3 h => ?_)
  refine g_iast X aH_365 dX7_save_31 h (fun t4 h => ?_)
  refine g_aload_n X dX7_save_32 0 rfl ?_
  refine g_getR X fH_X7_9_303 rfl dX7_save_33 ?_
  refine g_iconst X dX7_save_36 ?_
  refine g_aload_n X dX7_save_37 0 rfl ?_
  refine g_getR X fH_X7_19_303 rfl dX7_save_38 ?_
  refine g_getR X fH_X7_113_302 rfl dX7_save_41 ?_
  refine g_getI X (fH_X7_107_o (o := 2) (by decide)) rfl dX7_save_44 h (fun v5 h => ?_)
  refine g_iast X aH_365 dX7_save_47 h (fun t6 h => ?_)
  refine g_aload_n X dX7_save_48 0 rfl ?_
  refine g_getR X fH_X7_9_303 rfl dX7_save_49 ?_
  refine g_iconst X dX7_save_52 ?_
  refine g_aload_n X dX7_save_53 0 rfl ?_
  refine g_getR X fH_X7_19_303 rfl dX7_save_54 ?_
  refine g_getI X fH_X7_116_302 rfl dX7_save_57 h (fun v7 h => ?_)
  refine g_iast X aH_365 dX7_save_60 h (fun t8 h => ?_)
  refine g_aload_n X dX7_save_61 0 rfl ?_
  refine g_getR X fH_X7_9_303 rfl dX7_save_62 ?_
  refine g_iconst X dX7_save_65 ?_
  refine g_aload_n X dX7_save_66 0 rfl ?_
  refine g_getR X fH_X7_19_303 rfl dX7_save_67 ?_
  refine g_getI X fH_X7_119_302 rfl dX7_save_70 h (fun v9 h => ?_)
  refine g_iast X aH_365 dX7_save_73 h (fun t10 h => ?_)
  refine g_aload_n X dX7_save_74 0 rfl ?_
  refine g_getR X fH_X7_9_303 rfl dX7_save_75 ?_
  refine g_iconst X dX7_save_78 ?_
  refine g_aload_n X dX7_save_79 0 rfl ?_
  refine g_getR X fH_X7_19_303 rfl dX7_save_80 ?_
  refine g_getI X fH_X7_122_302 rfl dX7_save_83 h (fun v11 h => ?_)
  refine g_iast X aH_365 dX7_save_86 h (fun t12 h => ?_)
  exact g_vret X h dX7_save_87
set_option maxHeartbeats 4000000 in
set_option maxRecDepth 100000 in
theorem cp_X7_save (l : Launch) (E : cE) (r : Nat → Nat) (N : Nat) (t : St) (z : St) (h : f_X7_save N t = some z) : cM l E yX7_save cX7_save 1 none rm_f_X7_save [.ref (r 303)] (gW E r shH t) (gqV E (gW E r shH) z) := by
  refine g_of (w := gW E r shH) (by decide) (Nat.le_of_ble_eq_true rfl) ?_
  intro p e s m below meth c A X
  exact g_sub (lv' := [(0, .ref (r 303))]) [0] rfl (b_f_X7_save X h)
theorem yy_X7_save : cY yX7_save cX7_save 1 none 0 := ⟨wdK_X7_save, wdZ_RX7, by decide +kernel⟩
theorem yi_X7_save : cYi yX7_save := ⟨wdN_X7_save, wdS_X7_save⟩
theorem dX7_startText_0 : decode cX7_startText 0 = .ok (.aload_n 0, 1) := by decide +kernel
theorem dX7_startText_1 : decode cX7_startText 1 = .ok (.iconst 0, 1) := by decide +kernel
theorem dX7_startText_2 : decode cX7_startText 2 = .ok (.putfield 77, 3) := by decide +kernel
theorem dX7_startText_5 : decode cX7_startText 5 = .ok (.aload_n 0, 1) := by decide +kernel
theorem dX7_startText_6 : decode cX7_startText 6 = .ok (.aload_n 0, 1) := by decide +kernel
theorem dX7_startText_7 : decode cX7_startText 7 = .ok (.getfield 15, 3) := by decide +kernel
theorem dX7_startText_10 : decode cX7_startText 10 = .ok (.getfield 84, 3) := by decide +kernel
theorem dX7_startText_13 : decode cX7_startText 13 = .ok (.iconst 0, 1) := by decide +kernel
theorem dX7_startText_14 : decode cX7_startText 14 = .ok (.iaload, 1) := by decide +kernel
theorem dX7_startText_15 : decode cX7_startText 15 = .ok (.putfield 29, 3) := by decide +kernel
theorem dX7_startText_18 : decode cX7_startText 18 = .ok (.aload_n 0, 1) := by decide +kernel
theorem dX7_startText_19 : decode cX7_startText 19 = .ok (.aload_n 0, 1) := by decide +kernel
theorem dX7_startText_20 : decode cX7_startText 20 = .ok (.getfield 15, 3) := by decide +kernel
theorem dX7_startText_23 : decode cX7_startText 23 = .ok (.getfield 87, 3) := by decide +kernel
theorem dX7_startText_26 : decode cX7_startText 26 = .ok (.iconst 0, 1) := by decide +kernel
theorem dX7_startText_27 : decode cX7_startText 27 = .ok (.iaload, 1) := by decide +kernel
theorem dX7_startText_28 : decode cX7_startText 28 = .ok (.putfield 90, 3) := by decide +kernel
theorem dX7_startText_31 : decode cX7_startText 31 = .ok (.aload_n 0, 1) := by decide +kernel
theorem dX7_startText_32 : decode cX7_startText 32 = .ok (.iconst 0, 1) := by decide +kernel
theorem dX7_startText_33 : decode cX7_startText 33 = .ok (.putfield 93, 3) := by decide +kernel
theorem dX7_startText_36 : decode cX7_startText 36 = .ok (.aload_n 0, 1) := by decide +kernel
theorem dX7_startText_37 : decode cX7_startText 37 = .ok (.iconst 0, 1) := by decide +kernel
theorem dX7_startText_38 : decode cX7_startText 38 = .ok (.putfield 96, 3) := by decide +kernel
theorem dX7_startText_41 : decode cX7_startText 41 = .ok (.aload_n 0, 1) := by decide +kernel
theorem dX7_startText_42 : decode cX7_startText 42 = .ok (.iconst 0, 1) := by decide +kernel
theorem dX7_startText_43 : decode cX7_startText 43 = .ok (.putfield 99, 3) := by decide +kernel
theorem dX7_startText_46 : decode cX7_startText 46 = .ok (.return_, 1) := by decide +kernel
abbrev rm_f_X7_startText : Room := { frames := 0, cells := 0, slots := 0, locals := 0 }
def f_X7_startText (N : Nat) (t : St) : Option (St) :=
    lt1 (pI t 303 2 0) fun t1 =>
    ixI 0 4098 (lt1 (t1.1 332 (0 : Int).toNat) fun v2 =>
    lt1 (pI t1 303 3 v2) fun t3 =>
    ixI 0 4098 (lt1 (t3.1 333 (0 : Int).toNat) fun v4 =>
    lt1 (pI t3 303 4 v4) fun t5 =>
    lt1 (pI t5 303 5 0) fun t6 =>
    lt1 (pI t6 303 6 0) fun t7 =>
    boI 0 (lt1 (pI t7 303 7 0) fun t8 =>
    some t8)))
set_option maxHeartbeats 4000000 in
set_option maxRecDepth 100000 in
theorem b_f_X7_startText {p : Program} {l : Launch} {e : Env} {s : State} {m : MethodId} {args : Array Value} {below : List Frame} {meth : Method} {c : Code} {E : cE} {A : Nat → Prop} {r : Nat → Nat} {mc ms : Nat} {z : St} {N : Nat} {t : St} (X : gX p s m meth c cX7_startText 1 none yX7_startText args E A) (h : f_X7_startText N t = some z) : gP p l e rm_f_X7_startText s m args below meth c E A 1 (MQ below ((gqV E (gW E r shH) z) A) args s mc ms A) (gW E r shH) 0 [(0, .ref (r 303))] [] t := by
  unfold f_X7_startText at h
  refine g_aload_n X dX7_startText_0 0 rfl ?_
  refine g_iconst X dX7_startText_1 ?_
  refine g_putI X fH_X7_77_303w rfl dX7_startText_2 h (fun t1 h => ?_)
  refine g_aload_n X dX7_startText_5 0 rfl ?_
  refine g_aload_n X dX7_startText_6 0 rfl ?_
  refine g_getR X fH_X7_15_303 rfl dX7_startText_7 ?_
  refine g_getR X fH_X7_84_301 rfl dX7_startText_10 ?_
  refine g_iconst X dX7_startText_13 ?_
  refine g_iald X aH_332 dX7_startText_14 h (fun v2 h => ?_)
  refine g_putI X fH_X7_29_303w rfl dX7_startText_15 h (fun t3 h => ?_)
  refine g_aload_n X dX7_startText_18 0 rfl ?_
  refine g_aload_n X dX7_startText_19 0 rfl ?_
  refine g_getR X fH_X7_15_303 rfl dX7_startText_20 ?_
  refine g_getR X fH_X7_87_301 rfl dX7_startText_23 ?_
  refine g_iconst X dX7_startText_26 ?_
  refine g_iald X aH_333 dX7_startText_27 h (fun v4 h => ?_)
  refine g_putI X fH_X7_90_303w rfl dX7_startText_28 h (fun t5 h => ?_)
  refine g_aload_n X dX7_startText_31 0 rfl ?_
  refine g_iconst X dX7_startText_32 ?_
  refine g_putI X fH_X7_93_303w rfl dX7_startText_33 h (fun t6 h => ?_)
  refine g_aload_n X dX7_startText_36 0 rfl ?_
  refine g_iconst X dX7_startText_37 ?_
  refine g_putI X fH_X7_96_303w rfl dX7_startText_38 h (fun t7 h => ?_)
  refine g_aload_n X dX7_startText_41 0 rfl ?_
  refine g_iconst X dX7_startText_42 ?_
  refine g_putZ X fH_X7_99_303w rfl dX7_startText_43 h (fun t8 h => ?_)
  exact g_vret X h dX7_startText_46
set_option maxHeartbeats 4000000 in
set_option maxRecDepth 100000 in
theorem cp_X7_startText (l : Launch) (E : cE) (r : Nat → Nat) (N : Nat) (t : St) (z : St) (h : f_X7_startText N t = some z) : cM l E yX7_startText cX7_startText 1 none rm_f_X7_startText [.ref (r 303)] (gW E r shH t) (gqV E (gW E r shH) z) := by
  refine g_of (w := gW E r shH) (by decide) (Nat.le_of_ble_eq_true rfl) ?_
  intro p e s m below meth c A X
  exact g_sub (lv' := [(0, .ref (r 303))]) [0] rfl (b_f_X7_startText X h)
theorem yy_X7_startText : cY yX7_startText cX7_startText 1 none 0 := ⟨wdK_X7_startText, wdZ_RX7, by decide +kernel⟩
theorem yi_X7_startText : cYi yX7_startText := ⟨wdN_X7_startText, wdS_X7_startText⟩
theorem dX7_wrong_0 : decode cX7_wrong 0 = .ok (.aload_n 0, 1) := by decide +kernel
theorem dX7_wrong_1 : decode cX7_wrong 1 = .ok (.iload_n 1, 1) := by decide +kernel
theorem dX7_wrong_2 : decode cX7_wrong 2 = .ok (.putfield 93, 3) := by decide +kernel
theorem dX7_wrong_5 : decode cX7_wrong 5 = .ok (.iconst 0, 1) := by decide +kernel
theorem dX7_wrong_6 : decode cX7_wrong 6 = .ok (.ireturn, 1) := by decide +kernel
abbrev rm_f_X7_wrong : Room := { frames := 0, cells := 0, slots := 0, locals := 0 }
def f_X7_wrong (N : Nat) (a0 : Int) (t : St) : Option (Int × St) :=
    lt1 (pI t 303 5 a0) fun t1 =>
    boI 0 (some (0, t1))
set_option maxHeartbeats 4000000 in
set_option maxRecDepth 100000 in
theorem b_f_X7_wrong {p : Program} {l : Launch} {e : Env} {s : State} {m : MethodId} {args : Array Value} {below : List Frame} {meth : Method} {c : Code} {E : cE} {A : Nat → Prop} {r : Nat → Nat} {mc ms : Nat} {z : Int × St} {N : Nat} {a0 : Int} {t : St} (X : gX p s m meth c cX7_wrong 2 (some .boolean) yX7_wrong args E A) (h : f_X7_wrong N a0 t = some z) : gP p l e rm_f_X7_wrong s m args below meth c E A 2 (MQ below ((gqI E (gW E r shH) z) A) args s mc ms A) (gW E r shH) 0 [(0, .ref (r 303)), (1, iv a0)] [] t := by
  unfold f_X7_wrong at h
  refine g_aload_n X dX7_wrong_0 0 rfl ?_
  refine g_iload_n X dX7_wrong_1 1 rfl ?_
  refine g_putI X fH_X7_93_303w rfl dX7_wrong_2 h (fun t1 h => ?_)
  refine g_iconst X dX7_wrong_5 ?_
  exact g_zret X h dX7_wrong_6
set_option maxHeartbeats 4000000 in
set_option maxRecDepth 100000 in
theorem cp_X7_wrong (l : Launch) (E : cE) (r : Nat → Nat) (N : Nat) (a0 : Int) (t : St) (z : Int × St) (h : f_X7_wrong N a0 t = some z) : cM l E yX7_wrong cX7_wrong 2 (some .boolean) rm_f_X7_wrong [.ref (r 303), iv a0] (gW E r shH t) (gqI E (gW E r shH) z) := by
  refine g_of (w := gW E r shH) (by decide) (Nat.le_of_ble_eq_true rfl) ?_
  intro p e s m below meth c A X
  exact g_sub (lv' := [(0, .ref (r 303)), (1, iv a0)]) [0, 1] rfl (b_f_X7_wrong X h)
theorem yy_X7_wrong : cY yX7_wrong cX7_wrong 2 (some .boolean) 1 := ⟨wdK_X7_wrong, wdZ_RX7, by decide +kernel⟩
theorem yi_X7_wrong : cYi yX7_wrong := ⟨wdN_X7_wrong, wdS_X7_wrong⟩
theorem dX7_pass_0 : decode cX7_pass 0 = .ok (.aload_n 0, 1) := by decide +kernel
theorem dX7_pass_1 : decode cX7_pass 1 = .ok (.getfield 99, 3) := by decide +kernel
theorem dX7_pass_4 : decode cX7_pass 4 = .ok (.ifCond .eq 23, 3) := by decide +kernel
theorem dX7_pass_7 : decode cX7_pass 7 = .ok (.aload_n 0, 1) := by decide +kernel
theorem dX7_pass_8 : decode cX7_pass 8 = .ok (.getfield 19, 3) := by decide +kernel
theorem dX7_pass_11 : decode cX7_pass 11 = .ok (.getfield 122, 3) := by decide +kernel
theorem dX7_pass_14 : decode cX7_pass 14 = .ok (.sipush 6000, 3) := by decide +kernel
theorem dX7_pass_17 : decode cX7_pass 17 = .ok (.if_icmp .lt 10, 3) := by decide +kernel
theorem dX7_pass_20 : decode cX7_pass 20 = .ok (.aload_n 0, 1) := by decide +kernel
theorem dX7_pass_21 : decode cX7_pass 21 = .ok (.iconst 5, 1) := by decide +kernel
theorem dX7_pass_22 : decode cX7_pass 22 = .ok (.putfield 93, 3) := by decide +kernel
theorem dX7_pass_25 : decode cX7_pass 25 = .ok (.iconst 0, 1) := by decide +kernel
theorem dX7_pass_26 : decode cX7_pass 26 = .ok (.ireturn, 1) := by decide +kernel
theorem dX7_pass_27 : decode cX7_pass 27 = .ok (.aload_n 0, 1) := by decide +kernel
theorem dX7_pass_28 : decode cX7_pass 28 = .ok (.getfield 19, 3) := by decide +kernel
theorem dX7_pass_31 : decode cX7_pass 31 = .ok (.dup, 1) := by decide +kernel
theorem dX7_pass_32 : decode cX7_pass 32 = .ok (.getfield 122, 3) := by decide +kernel
theorem dX7_pass_35 : decode cX7_pass 35 = .ok (.aload_n 0, 1) := by decide +kernel
theorem dX7_pass_36 : decode cX7_pass 36 = .ok (.getfield 99, 3) := by decide +kernel
theorem dX7_pass_39 : decode cX7_pass 39 = .ok (.ifCond .eq 7, 3) := by decide +kernel
theorem dX7_pass_42 : decode cX7_pass 42 = .ok (.iconst 1, 1) := by decide +kernel
theorem dX7_pass_43 : decode cX7_pass 43 = .ok (.goto 4, 3) := by decide +kernel
theorem dX7_pass_46 : decode cX7_pass 46 = .ok (.iconst 0, 1) := by decide +kernel
theorem dX7_pass_47 : decode cX7_pass 47 = .ok (.iadd, 1) := by decide +kernel
theorem dX7_pass_48 : decode cX7_pass 48 = .ok (.putfield 122, 3) := by decide +kernel
theorem dX7_pass_51 : decode cX7_pass 51 = .ok (.aload_n 0, 1) := by decide +kernel
theorem dX7_pass_52 : decode cX7_pass 52 = .ok (.dup, 1) := by decide +kernel
theorem dX7_pass_53 : decode cX7_pass 53 = .ok (.getfield 77, 3) := by decide +kernel
theorem dX7_pass_56 : decode cX7_pass 56 = .ok (.iconst 1, 1) := by decide +kernel
theorem dX7_pass_57 : decode cX7_pass 57 = .ok (.iadd, 1) := by decide +kernel
theorem dX7_pass_58 : decode cX7_pass 58 = .ok (.putfield 77, 3) := by decide +kernel
theorem dX7_pass_61 : decode cX7_pass 61 = .ok (.aload_n 0, 1) := by decide +kernel
theorem dX7_pass_62 : decode cX7_pass 62 = .ok (.getfield 77, 3) := by decide +kernel
theorem dX7_pass_65 : decode cX7_pass 65 = .ok (.aload_n 0, 1) := by decide +kernel
theorem dX7_pass_66 : decode cX7_pass 66 = .ok (.getfield 15, 3) := by decide +kernel
theorem dX7_pass_69 : decode cX7_pass 69 = .ok (.getfield 124, 3) := by decide +kernel
theorem dX7_pass_72 : decode cX7_pass 72 = .ok (.if_icmp .ge 7, 3) := by decide +kernel
theorem dX7_pass_75 : decode cX7_pass 75 = .ok (.iconst 1, 1) := by decide +kernel
theorem dX7_pass_76 : decode cX7_pass 76 = .ok (.goto 4, 3) := by decide +kernel
theorem dX7_pass_79 : decode cX7_pass 79 = .ok (.iconst 0, 1) := by decide +kernel
theorem dX7_pass_80 : decode cX7_pass 80 = .ok (.istore_n 1, 1) := by decide +kernel
theorem dX7_pass_81 : decode cX7_pass 81 = .ok (.aload_n 0, 1) := by decide +kernel
theorem dX7_pass_82 : decode cX7_pass 82 = .ok (.iload_n 1, 1) := by decide +kernel
theorem dX7_pass_83 : decode cX7_pass 83 = .ok (.ifCond .eq 18, 3) := by decide +kernel
theorem dX7_pass_86 : decode cX7_pass 86 = .ok (.aload_n 0, 1) := by decide +kernel
theorem dX7_pass_87 : decode cX7_pass 87 = .ok (.getfield 15, 3) := by decide +kernel
theorem dX7_pass_90 : decode cX7_pass 90 = .ok (.getfield 84, 3) := by decide +kernel
theorem dX7_pass_93 : decode cX7_pass 93 = .ok (.aload_n 0, 1) := by decide +kernel
theorem dX7_pass_94 : decode cX7_pass 94 = .ok (.getfield 77, 3) := by decide +kernel
theorem dX7_pass_97 : decode cX7_pass 97 = .ok (.iaload, 1) := by decide +kernel
theorem dX7_pass_98 : decode cX7_pass 98 = .ok (.goto 5, 3) := by decide +kernel
theorem dX7_pass_101 : decode cX7_pass 101 = .ok (.bipush 48, 2) := by decide +kernel
theorem dX7_pass_103 : decode cX7_pass 103 = .ok (.putfield 29, 3) := by decide +kernel
theorem dX7_pass_106 : decode cX7_pass 106 = .ok (.aload_n 0, 1) := by decide +kernel
theorem dX7_pass_107 : decode cX7_pass 107 = .ok (.iload_n 1, 1) := by decide +kernel
theorem dX7_pass_108 : decode cX7_pass 108 = .ok (.ifCond .eq 18, 3) := by decide +kernel
theorem dX7_pass_111 : decode cX7_pass 111 = .ok (.aload_n 0, 1) := by decide +kernel
theorem dX7_pass_112 : decode cX7_pass 112 = .ok (.getfield 15, 3) := by decide +kernel
theorem dX7_pass_115 : decode cX7_pass 115 = .ok (.getfield 87, 3) := by decide +kernel
theorem dX7_pass_118 : decode cX7_pass 118 = .ok (.aload_n 0, 1) := by decide +kernel
theorem dX7_pass_119 : decode cX7_pass 119 = .ok (.getfield 77, 3) := by decide +kernel
theorem dX7_pass_122 : decode cX7_pass 122 = .ok (.iaload, 1) := by decide +kernel
theorem dX7_pass_123 : decode cX7_pass 123 = .ok (.goto 4, 3) := by decide +kernel
theorem dX7_pass_126 : decode cX7_pass 126 = .ok (.iconst 0, 1) := by decide +kernel
theorem dX7_pass_127 : decode cX7_pass 127 = .ok (.putfield 90, 3) := by decide +kernel
theorem dX7_pass_130 : decode cX7_pass 130 = .ok (.iconst 1, 1) := by decide +kernel
theorem dX7_pass_131 : decode cX7_pass 131 = .ok (.ireturn, 1) := by decide +kernel
abbrev rm_f_X7_pass : Room := { frames := 0, cells := 0, slots := 0, locals := 0 }
def f_X7_pass (N : Nat) (t : St) : Option (Int × St) :=
    lt1 (t.1 303 7) fun v1 =>
    jn1 (fun (t2 : St) => lt1 (t2.1 302 19) fun v4 =>
    lt1 (t2.1 303 7) fun v5 =>
    jn1 (fun (j6 : Int) (t7 : St) => lt1 (pI t7 302 19 (v4 + j6)) fun t9 =>
    lt1 (t9.1 303 2) fun v10 =>
    lt1 (pI t9 303 2 (v10 + 1)) fun t11 =>
    lt1 (t11.1 303 2) fun v12 =>
    lt1 (t11.1 301 7) fun v13 =>
    jn1 (fun (j14 : Int) (t15 : St) => jn1 (fun (j17 : Int) (t18 : St) => lt1 (pI t18 303 3 j17) fun t20 =>
    cmpI j14 0 (if j14 = 0 then (lt1 (pI t20 303 4 0) fun t21 =>
    boI 1 (some (1, t21)))
    else (lt1 (t20.1 303 2) fun v22 =>
    ixI v22 4098 (lt1 (t20.1 333 v22.toNat) fun v23 =>
    lt1 (pI t20 303 4 v23) fun t24 =>
    boI 1 (some (1, t24)))))) fun J19 =>
    cmpI j14 0 (if j14 = 0 then (J19 48 t15)
    else (lt1 (t15.1 303 2) fun v25 =>
    ixI v25 4098 (lt1 (t15.1 332 v25.toNat) fun v26 =>
    J19 v26 t15)))) fun J16 =>
    cmpI v12 v13 (if v12 < v13 then (J16 1 t11)
    else (J16 0 t11))) fun J8 =>
    cmpI v5 0 (if v5 = 0 then (J8 0 t2)
    else (J8 1 t2))) fun J3 =>
    cmpI v1 0 (if v1 = 0 then (J3 t)
    else (lt1 (t.1 302 19) fun v27 =>
    cmpI v27 6000 (if v27 < 6000 then (J3 t)
    else (lt1 (pI t 303 5 5) fun t28 =>
    boI 0 (some (0, t28))))))
set_option maxHeartbeats 4000000 in
set_option maxRecDepth 100000 in
theorem b_f_X7_pass {p : Program} {l : Launch} {e : Env} {s : State} {m : MethodId} {args : Array Value} {below : List Frame} {meth : Method} {c : Code} {E : cE} {A : Nat → Prop} {r : Nat → Nat} {mc ms : Nat} {z : Int × St} {N : Nat} {t : St} (X : gX p s m meth c cX7_pass 2 (some .boolean) yX7_pass args E A) (h : f_X7_pass N t = some z) : gP p l e rm_f_X7_pass s m args below meth c E A 2 (MQ below ((gqI E (gW E r shH) z) A) args s mc ms A) (gW E r shH) 0 [(0, .ref (r 303))] [] t := by
  unfold f_X7_pass at h
  refine g_aload_n X dX7_pass_0 0 rfl ?_
  refine g_getI X fH_X7_99_303 rfl dX7_pass_1 h (fun v1 h => ?_)
  refine g_join (J := fun jj => ∀ (t2 : St), jj  t2 = some z → gP p l e rm_f_X7_pass s m args below meth c E A 2 (MQ below ((gqI E (gW E r shH) z) A) args s mc ms A) (gW E r shH) 27 [(0, .ref (r 303))] [] t2) h (fun  t2 h => ?_) (fun J3 hJ3 h => ?_)
  · refine g_aload_n X dX7_pass_27 0 rfl ?_
    refine g_getR X fH_X7_19_303 rfl dX7_pass_28 ?_
    refine g_dup X rfl dX7_pass_31 ?_
    refine g_getI X fH_X7_122_302 rfl dX7_pass_32 h (fun v4 h => ?_)
    refine g_aload_n X dX7_pass_35 0 rfl ?_
    refine g_getI X fH_X7_99_303 rfl dX7_pass_36 h (fun v5 h => ?_)
    refine g_join (J := fun jj => ∀ (j6 : Int) (t7 : St), jj j6 t7 = some z → gP p l e rm_f_X7_pass s m args below meth c E A 2 (MQ below ((gqI E (gW E r shH) z) A) args s mc ms A) (gW E r shH) 47 [(0, .ref (r 303))] [iv j6, iv v4, .ref (r 302)] t7) h (fun j6 t7 h => ?_) (fun J8 hJ8 h => ?_)
    · refine g_iadd X dX7_pass_47 ?_
      refine g_putI X fH_X7_122_302w rfl dX7_pass_48 h (fun t9 h => ?_)
      refine g_aload_n X dX7_pass_51 0 rfl ?_
      refine g_dup X rfl dX7_pass_52 ?_
      refine g_getI X fH_X7_77_303 rfl dX7_pass_53 h (fun v10 h => ?_)
      refine g_iconst X dX7_pass_56 ?_
      refine g_iadd X dX7_pass_57 ?_
      refine g_putI X fH_X7_77_303w rfl dX7_pass_58 h (fun t11 h => ?_)
      refine g_aload_n X dX7_pass_61 0 rfl ?_
      refine g_getI X fH_X7_77_303 rfl dX7_pass_62 h (fun v12 h => ?_)
      refine g_aload_n X dX7_pass_65 0 rfl ?_
      refine g_getR X fH_X7_15_303 rfl dX7_pass_66 ?_
      refine g_getI X fH_X7_124_301 rfl dX7_pass_69 h (fun v13 h => ?_)
      refine g_join (J := fun jj => ∀ (j14 : Int) (t15 : St), jj j14 t15 = some z → gP p l e rm_f_X7_pass s m args below meth c E A 2 (MQ below ((gqI E (gW E r shH) z) A) args s mc ms A) (gW E r shH) 80 [(0, .ref (r 303))] [iv j14] t15) h (fun j14 t15 h => ?_) (fun J16 hJ16 h => ?_)
      · refine g_istore_n (lv' := [(1, iv j14), (0, .ref (r 303))]) X dX7_pass_80 rfl (by decide) rfl ?_
        refine g_aload_n X dX7_pass_81 1 rfl ?_
        refine g_iload_n X dX7_pass_82 0 rfl ?_
        refine g_join (J := fun jj => ∀ (j17 : Int) (t18 : St), jj j17 t18 = some z → gP p l e rm_f_X7_pass s m args below meth c E A 2 (MQ below ((gqI E (gW E r shH) z) A) args s mc ms A) (gW E r shH) 103 [(0, .ref (r 303)), (1, iv j14)] [iv j17, .ref (r 303)] t18) h (fun j17 t18 h => ?_) (fun J19 hJ19 h => ?_)
        · refine g_putI X fH_X7_29_303w rfl dX7_pass_103 h (fun t20 h => ?_)
          refine g_aload_n X dX7_pass_106 0 rfl ?_
          refine g_iload_n X dX7_pass_107 1 rfl ?_
          refine g_if_eq (tgt := 126) X dX7_pass_108 (by decide) h (fun h => ?_) (fun h => ?_)
          · refine g_iconst X dX7_pass_126 ?_
            refine g_putI X fH_X7_90_303w rfl dX7_pass_127 h (fun t21 h => ?_)
            refine g_iconst X dX7_pass_130 ?_
            exact g_zret X h dX7_pass_131
          · refine g_aload_n X dX7_pass_111 0 rfl ?_
            refine g_getR X fH_X7_15_303 rfl dX7_pass_112 ?_
            refine g_getR X fH_X7_87_301 rfl dX7_pass_115 ?_
            refine g_aload_n X dX7_pass_118 0 rfl ?_
            refine g_getI X fH_X7_77_303 rfl dX7_pass_119 h (fun v22 h => ?_)
            refine g_iald X aH_333 dX7_pass_122 h (fun v23 h => ?_)
            refine g_goto (tgt := 127) X dX7_pass_123 (by decide) ?_
            refine g_putI X fH_X7_90_303w rfl dX7_pass_127 h (fun t24 h => ?_)
            refine g_iconst X dX7_pass_130 ?_
            exact g_zret X h dX7_pass_131
        refine g_if_eq (tgt := 101) X dX7_pass_83 (by decide) h (fun h => ?_) (fun h => ?_)
        · refine g_bipush X dX7_pass_101 (by decide) ?_
          exact g_sub (lv' := [(0, .ref (r 303)), (1, iv j14)]) [1, 0] rfl (hJ19 48 t15 h)
        · refine g_aload_n X dX7_pass_86 1 rfl ?_
          refine g_getR X fH_X7_15_303 rfl dX7_pass_87 ?_
          refine g_getR X fH_X7_84_301 rfl dX7_pass_90 ?_
          refine g_aload_n X dX7_pass_93 1 rfl ?_
          refine g_getI X fH_X7_77_303 rfl dX7_pass_94 h (fun v25 h => ?_)
          refine g_iald X aH_332 dX7_pass_97 h (fun v26 h => ?_)
          refine g_goto (tgt := 103) X dX7_pass_98 (by decide) ?_
          exact g_sub (lv' := [(0, .ref (r 303)), (1, iv j14)]) [1, 0] rfl (hJ19 v26 t15 h)
      refine g_icmp_ge (tgt := 79) X dX7_pass_72 (by decide) h (fun h => ?_) (fun h => ?_)
      · refine g_iconst X dX7_pass_79 ?_
        exact g_sub (lv' := [(0, .ref (r 303))]) [0] rfl (hJ16 0 t11 h)
      · refine g_iconst X dX7_pass_75 ?_
        refine g_goto (tgt := 80) X dX7_pass_76 (by decide) ?_
        exact g_sub (lv' := [(0, .ref (r 303))]) [0] rfl (hJ16 1 t11 h)
    refine g_if_eq (tgt := 46) X dX7_pass_39 (by decide) h (fun h => ?_) (fun h => ?_)
    · refine g_iconst X dX7_pass_46 ?_
      exact g_sub (lv' := [(0, .ref (r 303))]) [0] rfl (hJ8 0 t2 h)
    · refine g_iconst X dX7_pass_42 ?_
      refine g_goto (tgt := 47) X dX7_pass_43 (by decide) ?_
      exact g_sub (lv' := [(0, .ref (r 303))]) [0] rfl (hJ8 1 t2 h)
  refine g_if_eq (tgt := 27) X dX7_pass_4 (by decide) h (fun h => ?_) (fun h => ?_)
  · exact g_sub (lv' := [(0, .ref (r 303))]) [0] rfl (hJ3 t h)
  · refine g_aload_n X dX7_pass_7 0 rfl ?_
    refine g_getR X fH_X7_19_303 rfl dX7_pass_8 ?_
    refine g_getI X fH_X7_122_302 rfl dX7_pass_11 h (fun v27 h => ?_)
    refine g_sipush X dX7_pass_14 (by decide) ?_
    refine g_icmp_lt (tgt := 27) X dX7_pass_17 (by decide) h (fun h => ?_) (fun h => ?_)
    · exact g_sub (lv' := [(0, .ref (r 303))]) [0] rfl (hJ3 t h)
    · refine g_aload_n X dX7_pass_20 0 rfl ?_
      refine g_iconst X dX7_pass_21 ?_
      refine g_putI X fH_X7_93_303w rfl dX7_pass_22 h (fun t28 h => ?_)
      refine g_iconst X dX7_pass_25 ?_
      exact g_zret X h dX7_pass_26
set_option maxHeartbeats 4000000 in
set_option maxRecDepth 100000 in
theorem cp_X7_pass (l : Launch) (E : cE) (r : Nat → Nat) (N : Nat) (t : St) (z : Int × St) (h : f_X7_pass N t = some z) : cM l E yX7_pass cX7_pass 2 (some .boolean) rm_f_X7_pass [.ref (r 303)] (gW E r shH t) (gqI E (gW E r shH) z) := by
  refine g_of (w := gW E r shH) (by decide) (Nat.le_of_ble_eq_true rfl) ?_
  intro p e s m below meth c A X
  exact g_sub (lv' := [(0, .ref (r 303))]) [0] rfl (b_f_X7_pass X h)
theorem yy_X7_pass : cY yX7_pass cX7_pass 2 (some .boolean) 0 := ⟨wdK_X7_pass, wdZ_RX7, by decide +kernel⟩
theorem yi_X7_pass : cYi yX7_pass := ⟨wdN_X7_pass, wdS_X7_pass⟩
theorem dX7_takeNew_0 : decode cX7_takeNew 0 = .ok (.aload_n 0, 1) := by decide +kernel
theorem dX7_takeNew_1 : decode cX7_takeNew 1 = .ok (.getfield 29, 3) := by decide +kernel
theorem dX7_takeNew_4 : decode cX7_takeNew 4 = .ok (.bipush 38, 2) := by decide +kernel
theorem dX7_takeNew_6 : decode cX7_takeNew 6 = .ok (.if_icmp .eq 9, 3) := by decide +kernel
theorem dX7_takeNew_9 : decode cX7_takeNew 9 = .ok (.aload_n 0, 1) := by decide +kernel
theorem dX7_takeNew_10 : decode cX7_takeNew 10 = .ok (.iconst 1, 1) := by decide +kernel
theorem dX7_takeNew_11 : decode cX7_takeNew 11 = .ok (.invokevirtual 48, 3) := by decide +kernel
theorem dX7_takeNew_14 : decode cX7_takeNew 14 = .ok (.ireturn, 1) := by decide +kernel
theorem dX7_takeNew_15 : decode cX7_takeNew 15 = .ok (.iconst 0, 1) := by decide +kernel
theorem dX7_takeNew_16 : decode cX7_takeNew 16 = .ok (.istore_n 1, 1) := by decide +kernel
theorem dX7_takeNew_17 : decode cX7_takeNew 17 = .ok (.iload_n 1, 1) := by decide +kernel
theorem dX7_takeNew_18 : decode cX7_takeNew 18 = .ok (.iconst 3, 1) := by decide +kernel
theorem dX7_takeNew_19 : decode cX7_takeNew 19 = .ok (.if_icmp .ge 40, 3) := by decide +kernel
theorem dX7_takeNew_22 : decode cX7_takeNew 22 = .ok (.aload_n 0, 1) := by decide +kernel
theorem dX7_takeNew_23 : decode cX7_takeNew 23 = .ok (.getfield 19, 3) := by decide +kernel
theorem dX7_takeNew_26 : decode cX7_takeNew 26 = .ok (.iload_n 1, 1) := by decide +kernel
theorem dX7_takeNew_27 : decode cX7_takeNew 27 = .ok (.invokevirtual 61, 3) := by decide +kernel
theorem dX7_takeNew_30 : decode cX7_takeNew 30 = .ok (.aload_n 0, 1) := by decide +kernel
theorem dX7_takeNew_31 : decode cX7_takeNew 31 = .ok (.getfield 15, 3) := by decide +kernel
theorem dX7_takeNew_34 : decode cX7_takeNew 34 = .ok (.getfield 67, 3) := by decide +kernel
theorem dX7_takeNew_37 : decode cX7_takeNew 37 = .ok (.aload_n 0, 1) := by decide +kernel
theorem dX7_takeNew_38 : decode cX7_takeNew 38 = .ok (.getfield 77, 3) := by decide +kernel
theorem dX7_takeNew_41 : decode cX7_takeNew 41 = .ok (.invokevirtual 71, 3) := by decide +kernel
theorem dX7_takeNew_44 : decode cX7_takeNew 44 = .ok (.ifCond .lt 9, 3) := by decide +kernel
theorem dX7_takeNew_47 : decode cX7_takeNew 47 = .ok (.aload_n 0, 1) := by decide +kernel
theorem dX7_takeNew_48 : decode cX7_takeNew 48 = .ok (.iconst 3, 1) := by decide +kernel
theorem dX7_takeNew_49 : decode cX7_takeNew 49 = .ok (.invokevirtual 48, 3) := by decide +kernel
theorem dX7_takeNew_52 : decode cX7_takeNew 52 = .ok (.ireturn, 1) := by decide +kernel
theorem dX7_takeNew_53 : decode cX7_takeNew 53 = .ok (.iinc 1 1, 3) := by decide +kernel
theorem dX7_takeNew_56 : decode cX7_takeNew 56 = .ok (.goto (-39), 3) := by decide +kernel
theorem dX7_takeNew_59 : decode cX7_takeNew 59 = .ok (.aload_n 0, 1) := by decide +kernel
theorem dX7_takeNew_60 : decode cX7_takeNew 60 = .ok (.invokevirtual 127, 3) := by decide +kernel
theorem dX7_takeNew_63 : decode cX7_takeNew 63 = .ok (.ireturn, 1) := by decide +kernel
abbrev rm_f_X7_takeNew : Room := { frames := 1, cells := 0, slots := 0, locals := 23 }
def f_X7_takeNew_L17 (N : Nat) (K4 : (St → Option (Int × St))) (K5 : (St → Option (Int × St))) : Nat → Int → St → Option (Int × St)
  | 0, _, _ => none
  | n9 + 1, x2, t3 =>
    cmpI x2 3 (if x2 < 3 then (bdI (f_X0_namesOf N x2 t3) fun v7 t6 =>
    lt1 (t6.1 303 2) fun v8 =>
    bdI (f_X6_find N v7.toNat 335 12294 v8 t6) fun v10 t9 =>
    cmpI v10 0 (if v10 < 0 then (f_X7_takeNew_L17 N K4 K5 n9 (x2 + 1) t9)
    else (K4 t9)))
    else (K5 t3))
def f_X7_takeNew (N : Nat) (t : St) : Option (Int × St) :=
    lt1 (t.1 303 3) fun v1 =>
    cmpI v1 38 (if v1 = 38 then (f_X7_takeNew_L17 N (fun (t11 : St) => bdI (f_X7_wrong N 3 t11) fun v13 t12 =>
    boI v13 (some (v13, t12))) (fun (t14 : St) => bdI (f_X7_pass N t14) fun v16 t15 =>
    boI v16 (some (v16, t15))) N 0 t)
    else (bdI (f_X7_wrong N 1 t) fun v18 t17 =>
    boI v18 (some (v18, t17))))
set_option maxHeartbeats 4000000 in
set_option maxRecDepth 100000 in
theorem t_f_X7_takeNew_L17 {p : Program} {l : Launch} {e : Env} {s : State} {m : MethodId} {args : Array Value} {below : List Frame} {meth : Method} {c : Code} {E : cE} {A : Nat → Prop} {r : Nat → Nat} {mc ms : Nat} {z : Int × St} {N : Nat} {K4 : (St → Option (Int × St))} {K5 : (St → Option (Int × St))} (X : gX p s m meth c cX7_takeNew 2 (some .boolean) yX7_takeNew args E A) (hK4 : ∀ (t9 : St), K4 t9 = some z → gP p l e rm_f_X7_takeNew s m args below meth c E A 2 (MQ below ((gqI E (gW E r shH) z) A) args s mc ms A) (gW E r shH) 47 [(0, .ref (r 303))] [] t9) (hK5 : ∀ (t9 : St), K5 t9 = some z → gP p l e rm_f_X7_takeNew s m args below meth c E A 2 (MQ below ((gqI E (gW E r shH) z) A) args s mc ms A) (gW E r shH) 59 [(0, .ref (r 303))] [] t9) : ∀ (n9 : Nat) (x2 : Int) (t3 : St), f_X7_takeNew_L17 N K4 K5 n9 x2 t3 = some z → gP p l e rm_f_X7_takeNew s m args below meth c E A 2 (MQ below ((gqI E (gW E r shH) z) A) args s mc ms A) (gW E r shH) 17 [(0, .ref (r 303)), (1, iv x2)] [] t3 := by
  intro n9
  induction n9 with
  | zero => intro x2 t3 h; cases h
  | succ n9 ih =>
    intro x2 t3 h
    unfold f_X7_takeNew_L17 at h
    refine g_iload_n X dX7_takeNew_17 1 rfl ?_
    refine g_iconst X dX7_takeNew_18 ?_
    refine g_icmp_ge (tgt := 59) X dX7_takeNew_19 (by decide) h (fun h => ?_) (fun h => ?_)
    · exact g_sub (lv' := [(0, .ref (r 303))]) [0] rfl (hK5 t3 h)
    · refine g_aload_n X dX7_takeNew_22 0 rfl ?_
      refine g_getR X fH_X7_19_303 rfl dX7_takeNew_23 ?_
      refine g_iload_n X dX7_takeNew_26 1 rfl ?_
      refine g_callN (rest := []) X (fun u9 h9 => cp_X0_namesOf l E r N x2 t3 u9 h9) yy_X0_namesOf yi_X0_namesOf wdM_RX7_61 ⟨_, _, oH_302⟩ rfl rfl rfl (Nat.le_of_ble_eq_true rfl) dX7_takeNew_27 ⟨by decide, by decide⟩ ⟨rfl, rfl⟩ h (fun v7 t6 hn_v7 h => ?_)
      refine g_aload_n X dX7_takeNew_30 0 rfl ?_
      refine g_getR X fH_X7_15_303 rfl dX7_takeNew_31 ?_
      refine g_getR X fH_X7_67_301 rfl dX7_takeNew_34 ?_
      refine g_aload_n X dX7_takeNew_37 0 rfl ?_
      refine g_getI X fH_X7_77_303 rfl dX7_takeNew_38 h (fun v8 h => ?_)
      refine g_callOI (rest := []) X (fun u9 h9 => cp_X6_find l E r N v7.toNat hn_v7 335 12294 aH_335 v8 t6 u9 h9) yy_X6_find yi_X6_find wdM_RX7_71 (oX6 (o := v7.toNat) hn_v7) rfl rfl rfl (Nat.le_of_ble_eq_true rfl) dX7_takeNew_41 ⟨by decide, by decide⟩ ⟨rfl, rfl⟩ h (fun v10 t9 h => ?_)
      refine g_if_lt (tgt := 53) X dX7_takeNew_44 (by decide) h (fun h => ?_) (fun h => ?_)
      · refine g_iinc (lv' := [(1, iv (x2 + 1)), (0, .ref (r 303))]) X dX7_takeNew_53 (k := 1) rfl (by decide) rfl ?_
        refine g_goto (tgt := 17) X dX7_takeNew_56 (by decide) ?_
        exact g_sub (lv' := [(0, .ref (r 303)), (1, iv (x2 + 1))]) [1, 0] rfl (ih (x2 + 1) t9 h)
      · exact g_sub (lv' := [(0, .ref (r 303))]) [0] rfl (hK4 t9 h)
set_option maxHeartbeats 4000000 in
set_option maxRecDepth 100000 in
theorem b_f_X7_takeNew {p : Program} {l : Launch} {e : Env} {s : State} {m : MethodId} {args : Array Value} {below : List Frame} {meth : Method} {c : Code} {E : cE} {A : Nat → Prop} {r : Nat → Nat} {mc ms : Nat} {z : Int × St} {N : Nat} {t : St} (X : gX p s m meth c cX7_takeNew 2 (some .boolean) yX7_takeNew args E A) (h : f_X7_takeNew N t = some z) : gP p l e rm_f_X7_takeNew s m args below meth c E A 2 (MQ below ((gqI E (gW E r shH) z) A) args s mc ms A) (gW E r shH) 0 [(0, .ref (r 303))] [] t := by
  unfold f_X7_takeNew at h
  refine g_aload_n X dX7_takeNew_0 0 rfl ?_
  refine g_getI X fH_X7_29_303 rfl dX7_takeNew_1 h (fun v1 h => ?_)
  refine g_bipush X dX7_takeNew_4 (by decide) ?_
  refine g_icmp_eq (tgt := 15) X dX7_takeNew_6 (by decide) h (fun h => ?_) (fun h => ?_)
  · refine g_iconst X dX7_takeNew_15 ?_
    refine g_istore_n (lv' := [(1, iv 0), (0, .ref (r 303))]) X dX7_takeNew_16 rfl (by decide) rfl ?_
    refine g_sub (lv' := [(0, .ref (r 303)), (1, iv 0)]) [1, 0] rfl (t_f_X7_takeNew_L17 X (fun t11 h => ?_) (fun t14 h => ?_) N 0 t h)
    · refine g_aload_n X dX7_takeNew_47 0 rfl ?_
      refine g_iconst X dX7_takeNew_48 ?_
      refine g_callOI (rest := []) X (fun u9 h9 => cp_X7_wrong l E r N 3 t11 u9 h9) yy_X7_wrong yi_X7_wrong wdM_RX7_48 ⟨_, _, oH_303⟩ rfl rfl rfl (Nat.le_of_ble_eq_true rfl) dX7_takeNew_49 ⟨by decide, by decide⟩ ⟨rfl, rfl⟩ h (fun v13 t12 h => ?_)
      exact g_zret X h dX7_takeNew_52
    · refine g_aload_n X dX7_takeNew_59 0 rfl ?_
      refine g_callOI (rest := []) X (fun u9 h9 => cp_X7_pass l E r N t14 u9 h9) yy_X7_pass yi_X7_pass wdM_RX7_127 ⟨_, _, oH_303⟩ rfl rfl rfl (Nat.le_of_ble_eq_true rfl) dX7_takeNew_60 ⟨by decide, by decide⟩ ⟨rfl, rfl⟩ h (fun v16 t15 h => ?_)
      exact g_zret X h dX7_takeNew_63
  · refine g_aload_n X dX7_takeNew_9 0 rfl ?_
    refine g_iconst X dX7_takeNew_10 ?_
    refine g_callOI (rest := []) X (fun u9 h9 => cp_X7_wrong l E r N 1 t u9 h9) yy_X7_wrong yi_X7_wrong wdM_RX7_48 ⟨_, _, oH_303⟩ rfl rfl rfl (Nat.le_of_ble_eq_true rfl) dX7_takeNew_11 ⟨by decide, by decide⟩ ⟨rfl, rfl⟩ h (fun v18 t17 h => ?_)
    exact g_zret X h dX7_takeNew_14
set_option maxHeartbeats 4000000 in
set_option maxRecDepth 100000 in
theorem cp_X7_takeNew (l : Launch) (E : cE) (r : Nat → Nat) (N : Nat) (t : St) (z : Int × St) (h : f_X7_takeNew N t = some z) : cM l E yX7_takeNew cX7_takeNew 2 (some .boolean) rm_f_X7_takeNew [.ref (r 303)] (gW E r shH t) (gqI E (gW E r shH) z) := by
  refine g_of (w := gW E r shH) (by decide) (Nat.le_of_ble_eq_true rfl) ?_
  intro p e s m below meth c A X
  exact g_sub (lv' := [(0, .ref (r 303))]) [0] rfl (b_f_X7_takeNew X h)
theorem yy_X7_takeNew : cY yX7_takeNew cX7_takeNew 2 (some .boolean) 0 := ⟨wdK_X7_takeNew, wdZ_RX7, by decide +kernel⟩
theorem yi_X7_takeNew : cYi yX7_takeNew := ⟨wdN_X7_takeNew, wdS_X7_takeNew⟩
theorem dX7_take_0 : decode cX7_take 0 = .ok (.aload_n 0, 1) := by decide +kernel
theorem dX7_take_1 : decode cX7_take 1 = .ok (.getfield 29, 3) := by decide +kernel
theorem dX7_take_4 : decode cX7_take 4 = .ok (.iload_n 1, 1) := by decide +kernel
theorem dX7_take_5 : decode cX7_take 5 = .ok (.if_icmp .ne 10, 3) := by decide +kernel
theorem dX7_take_8 : decode cX7_take 8 = .ok (.aload_n 0, 1) := by decide +kernel
theorem dX7_take_9 : decode cX7_take 9 = .ok (.invokevirtual 127, 3) := by decide +kernel
theorem dX7_take_12 : decode cX7_take 12 = .ok (.goto 8, 3) := by decide +kernel
theorem dX7_take_15 : decode cX7_take 15 = .ok (.aload_n 0, 1) := by decide +kernel
theorem dX7_take_16 : decode cX7_take 16 = .ok (.iconst 1, 1) := by decide +kernel
theorem dX7_take_17 : decode cX7_take 17 = .ok (.invokevirtual 48, 3) := by decide +kernel
theorem dX7_take_20 : decode cX7_take 20 = .ok (.ireturn, 1) := by decide +kernel
abbrev rm_f_X7_take : Room := { frames := 1, cells := 0, slots := 0, locals := 21 }
def f_X7_take (N : Nat) (a0 : Int) (t : St) : Option (Int × St) :=
    lt1 (t.1 303 3) fun v1 =>
    cmpI v1 a0 (if v1 = a0 then (bdI (f_X7_pass N t) fun v5 t4 =>
    boI v5 (some (v5, t4)))
    else (bdI (f_X7_wrong N 1 t) fun v3 t2 =>
    boI v3 (some (v3, t2))))
set_option maxHeartbeats 4000000 in
set_option maxRecDepth 100000 in
theorem b_f_X7_take {p : Program} {l : Launch} {e : Env} {s : State} {m : MethodId} {args : Array Value} {below : List Frame} {meth : Method} {c : Code} {E : cE} {A : Nat → Prop} {r : Nat → Nat} {mc ms : Nat} {z : Int × St} {N : Nat} {a0 : Int} {t : St} (X : gX p s m meth c cX7_take 2 (some .boolean) yX7_take args E A) (h : f_X7_take N a0 t = some z) : gP p l e rm_f_X7_take s m args below meth c E A 2 (MQ below ((gqI E (gW E r shH) z) A) args s mc ms A) (gW E r shH) 0 [(0, .ref (r 303)), (1, iv a0)] [] t := by
  unfold f_X7_take at h
  refine g_aload_n X dX7_take_0 0 rfl ?_
  refine g_getI X fH_X7_29_303 rfl dX7_take_1 h (fun v1 h => ?_)
  refine g_iload_n X dX7_take_4 1 rfl ?_
  refine g_icmp_ne (tgt := 15) X dX7_take_5 (by decide) h (fun h => ?_) (fun h => ?_)
  · refine g_aload_n X dX7_take_15 0 rfl ?_
    refine g_iconst X dX7_take_16 ?_
    refine g_callOI (rest := []) X (fun u9 h9 => cp_X7_wrong l E r N 1 t u9 h9) yy_X7_wrong yi_X7_wrong wdM_RX7_48 ⟨_, _, oH_303⟩ rfl rfl rfl (Nat.le_of_ble_eq_true rfl) dX7_take_17 ⟨by decide, by decide⟩ ⟨rfl, rfl⟩ h (fun v3 t2 h => ?_)
    exact g_zret X h dX7_take_20
  · refine g_aload_n X dX7_take_8 0 rfl ?_
    refine g_callOI (rest := []) X (fun u9 h9 => cp_X7_pass l E r N t u9 h9) yy_X7_pass yi_X7_pass wdM_RX7_127 ⟨_, _, oH_303⟩ rfl rfl rfl (Nat.le_of_ble_eq_true rfl) dX7_take_9 ⟨by decide, by decide⟩ ⟨rfl, rfl⟩ h (fun v5 t4 h => ?_)
    refine g_goto (tgt := 20) X dX7_take_12 (by decide) ?_
    exact g_zret X h dX7_take_20
set_option maxHeartbeats 4000000 in
set_option maxRecDepth 100000 in
theorem cp_X7_take (l : Launch) (E : cE) (r : Nat → Nat) (N : Nat) (a0 : Int) (t : St) (z : Int × St) (h : f_X7_take N a0 t = some z) : cM l E yX7_take cX7_take 2 (some .boolean) rm_f_X7_take [.ref (r 303), iv a0] (gW E r shH t) (gqI E (gW E r shH) z) := by
  refine g_of (w := gW E r shH) (by decide) (Nat.le_of_ble_eq_true rfl) ?_
  intro p e s m below meth c A X
  exact g_sub (lv' := [(0, .ref (r 303)), (1, iv a0)]) [0, 1] rfl (b_f_X7_take X h)
theorem yy_X7_take : cY yX7_take cX7_take 2 (some .boolean) 1 := ⟨wdK_X7_take, wdZ_RX7, by decide +kernel⟩
theorem yi_X7_take : cYi yX7_take := ⟨wdN_X7_take, wdS_X7_take⟩
theorem dX7_numberFault_0 : decode cX7_numberFault 0 = .ok (.aload_n 0, 1) := by decide +kernel
theorem dX7_numberFault_1 : decode cX7_numberFault 1 = .ok (.getfield 29, 3) := by decide +kernel
theorem dX7_numberFault_4 : decode cX7_numberFault 4 = .ok (.bipush 39, 2) := by decide +kernel
theorem dX7_numberFault_6 : decode cX7_numberFault 6 = .ok (.if_icmp .eq 5, 3) := by decide +kernel
theorem dX7_numberFault_9 : decode cX7_numberFault 9 = .ok (.iconst 1, 1) := by decide +kernel
theorem dX7_numberFault_10 : decode cX7_numberFault 10 = .ok (.ireturn, 1) := by decide +kernel
theorem dX7_numberFault_11 : decode cX7_numberFault 11 = .ok (.aload_n 0, 1) := by decide +kernel
theorem dX7_numberFault_12 : decode cX7_numberFault 12 = .ok (.aload_n 0, 1) := by decide +kernel
theorem dX7_numberFault_13 : decode cX7_numberFault 13 = .ok (.getfield 90, 3) := by decide +kernel
theorem dX7_numberFault_16 : decode cX7_numberFault 16 = .ok (.putfield 130, 3) := by decide +kernel
theorem dX7_numberFault_19 : decode cX7_numberFault 19 = .ok (.aload_n 0, 1) := by decide +kernel
theorem dX7_numberFault_20 : decode cX7_numberFault 20 = .ok (.getfield 130, 3) := by decide +kernel
theorem dX7_numberFault_23 : decode cX7_numberFault 23 = .ok (.iload_n 1, 1) := by decide +kernel
theorem dX7_numberFault_24 : decode cX7_numberFault 24 = .ok (.if_icmp .lt 11, 3) := by decide +kernel
theorem dX7_numberFault_27 : decode cX7_numberFault 27 = .ok (.aload_n 0, 1) := by decide +kernel
theorem dX7_numberFault_28 : decode cX7_numberFault 28 = .ok (.getfield 130, 3) := by decide +kernel
theorem dX7_numberFault_31 : decode cX7_numberFault 31 = .ok (.iload_n 2, 1) := by decide +kernel
theorem dX7_numberFault_32 : decode cX7_numberFault 32 = .ok (.if_icmp .le 7, 3) := by decide +kernel
theorem dX7_numberFault_35 : decode cX7_numberFault 35 = .ok (.iconst 4, 1) := by decide +kernel
theorem dX7_numberFault_36 : decode cX7_numberFault 36 = .ok (.goto 4, 3) := by decide +kernel
theorem dX7_numberFault_39 : decode cX7_numberFault 39 = .ok (.iconst 0, 1) := by decide +kernel
theorem dX7_numberFault_40 : decode cX7_numberFault 40 = .ok (.ireturn, 1) := by decide +kernel
abbrev rm_f_X7_numberFault : Room := { frames := 0, cells := 0, slots := 0, locals := 0 }
def f_X7_numberFault (N : Nat) (a0 : Int) (a1 : Int) (t : St) : Option (Int × St) :=
    lt1 (t.1 303 3) fun v1 =>
    cmpI v1 39 (if v1 = 39 then (lt1 (t.1 303 4) fun v2 =>
    lt1 (pI t 303 8 v2) fun t3 =>
    lt1 (t3.1 303 8) fun v4 =>
    cmpI v4 a0 (if v4 < a0 then (some (4, t3))
    else (lt1 (t3.1 303 8) fun v5 =>
    cmpI v5 a1 (if a1 < v5 then (some (4, t3))
    else (some (0, t3))))))
    else (some (1, t)))
set_option maxHeartbeats 4000000 in
set_option maxRecDepth 100000 in
theorem b_f_X7_numberFault {p : Program} {l : Launch} {e : Env} {s : State} {m : MethodId} {args : Array Value} {below : List Frame} {meth : Method} {c : Code} {E : cE} {A : Nat → Prop} {r : Nat → Nat} {mc ms : Nat} {z : Int × St} {N : Nat} {a0 : Int} {a1 : Int} {t : St} (X : gX p s m meth c cX7_numberFault 3 (some .int) yX7_numberFault args E A) (h : f_X7_numberFault N a0 a1 t = some z) : gP p l e rm_f_X7_numberFault s m args below meth c E A 3 (MQ below ((gqI E (gW E r shH) z) A) args s mc ms A) (gW E r shH) 0 [(0, .ref (r 303)), (1, iv a0), (2, iv a1)] [] t := by
  unfold f_X7_numberFault at h
  refine g_aload_n X dX7_numberFault_0 0 rfl ?_
  refine g_getI X fH_X7_29_303 rfl dX7_numberFault_1 h (fun v1 h => ?_)
  refine g_bipush X dX7_numberFault_4 (by decide) ?_
  refine g_icmp_eq (tgt := 11) X dX7_numberFault_6 (by decide) h (fun h => ?_) (fun h => ?_)
  · refine g_aload_n X dX7_numberFault_11 0 rfl ?_
    refine g_aload_n X dX7_numberFault_12 0 rfl ?_
    refine g_getI X fH_X7_90_303 rfl dX7_numberFault_13 h (fun v2 h => ?_)
    refine g_putI X fH_X7_130_303w rfl dX7_numberFault_16 h (fun t3 h => ?_)
    refine g_aload_n X dX7_numberFault_19 0 rfl ?_
    refine g_getI X fH_X7_130_303 rfl dX7_numberFault_20 h (fun v4 h => ?_)
    refine g_iload_n X dX7_numberFault_23 1 rfl ?_
    refine g_icmp_lt (tgt := 35) X dX7_numberFault_24 (by decide) h (fun h => ?_) (fun h => ?_)
    · refine g_iconst X dX7_numberFault_35 ?_
      refine g_goto (tgt := 40) X dX7_numberFault_36 (by decide) ?_
      exact g_iret X h dX7_numberFault_40
    · refine g_aload_n X dX7_numberFault_27 0 rfl ?_
      refine g_getI X fH_X7_130_303 rfl dX7_numberFault_28 h (fun v5 h => ?_)
      refine g_iload_n X dX7_numberFault_31 2 rfl ?_
      refine g_icmp_le (tgt := 39) X dX7_numberFault_32 (by decide) h (fun h => ?_) (fun h => ?_)
      · refine g_iconst X dX7_numberFault_39 ?_
        exact g_iret X h dX7_numberFault_40
      · refine g_iconst X dX7_numberFault_35 ?_
        refine g_goto (tgt := 40) X dX7_numberFault_36 (by decide) ?_
        exact g_iret X h dX7_numberFault_40
  · refine g_iconst X dX7_numberFault_9 ?_
    exact g_iret X h dX7_numberFault_10
set_option maxHeartbeats 4000000 in
set_option maxRecDepth 100000 in
theorem cp_X7_numberFault (l : Launch) (E : cE) (r : Nat → Nat) (N : Nat) (a0 : Int) (a1 : Int) (t : St) (z : Int × St) (h : f_X7_numberFault N a0 a1 t = some z) : cM l E yX7_numberFault cX7_numberFault 3 (some .int) rm_f_X7_numberFault [.ref (r 303), iv a0, iv a1] (gW E r shH t) (gqI E (gW E r shH) z) := by
  refine g_of (w := gW E r shH) (by decide) (Nat.le_of_ble_eq_true rfl) ?_
  intro p e s m below meth c A X
  exact g_sub (lv' := [(0, .ref (r 303)), (1, iv a0), (2, iv a1)]) [0, 1, 2] rfl (b_f_X7_numberFault X h)
theorem yy_X7_numberFault : cY yX7_numberFault cX7_numberFault 3 (some .int) 2 := ⟨wdK_X7_numberFault, wdZ_RX7, by decide +kernel⟩
theorem yi_X7_numberFault : cYi yX7_numberFault := ⟨wdN_X7_numberFault, wdS_X7_numberFault⟩
theorem dX7_readSlot_0 : decode cX7_readSlot 0 = .ok (.aload_n 0, 1) := by decide +kernel
theorem dX7_readSlot_1 : decode cX7_readSlot 1 = .ok (.bipush (-32), 2) := by decide +kernel
theorem dX7_readSlot_3 : decode cX7_readSlot 3 = .ok (.bipush 32, 2) := by decide +kernel
theorem dX7_readSlot_5 : decode cX7_readSlot 5 = .ok (.invokevirtual 133, 3) := by decide +kernel
theorem dX7_readSlot_8 : decode cX7_readSlot 8 = .ok (.istore_n 2, 1) := by decide +kernel
theorem dX7_readSlot_9 : decode cX7_readSlot 9 = .ok (.iload_n 2, 1) := by decide +kernel
theorem dX7_readSlot_10 : decode cX7_readSlot 10 = .ok (.ifCond .ne 19, 3) := by decide +kernel
theorem dX7_readSlot_13 : decode cX7_readSlot 13 = .ok (.aload_n 0, 1) := by decide +kernel
theorem dX7_readSlot_14 : decode cX7_readSlot 14 = .ok (.getfield 19, 3) := by decide +kernel
theorem dX7_readSlot_17 : decode cX7_readSlot 17 = .ok (.getfield 150, 3) := by decide +kernel
theorem dX7_readSlot_20 : decode cX7_readSlot 20 = .ok (.iload_n 1, 1) := by decide +kernel
theorem dX7_readSlot_21 : decode cX7_readSlot 21 = .ok (.iaload, 1) := by decide +kernel
theorem dX7_readSlot_22 : decode cX7_readSlot 22 = .ok (.bipush 8, 2) := by decide +kernel
theorem dX7_readSlot_24 : decode cX7_readSlot 24 = .ok (.if_icmp .lt 5, 3) := by decide +kernel
theorem dX7_readSlot_27 : decode cX7_readSlot 27 = .ok (.iconst 5, 1) := by decide +kernel
theorem dX7_readSlot_28 : decode cX7_readSlot 28 = .ok (.istore_n 2, 1) := by decide +kernel
theorem dX7_readSlot_29 : decode cX7_readSlot 29 = .ok (.iload_n 2, 1) := by decide +kernel
theorem dX7_readSlot_30 : decode cX7_readSlot 30 = .ok (.ifCond .eq 9, 3) := by decide +kernel
theorem dX7_readSlot_33 : decode cX7_readSlot 33 = .ok (.aload_n 0, 1) := by decide +kernel
theorem dX7_readSlot_34 : decode cX7_readSlot 34 = .ok (.iload_n 2, 1) := by decide +kernel
theorem dX7_readSlot_35 : decode cX7_readSlot 35 = .ok (.invokevirtual 48, 3) := by decide +kernel
theorem dX7_readSlot_38 : decode cX7_readSlot 38 = .ok (.ireturn, 1) := by decide +kernel
theorem dX7_readSlot_39 : decode cX7_readSlot 39 = .ok (.aload_n 0, 1) := by decide +kernel
theorem dX7_readSlot_40 : decode cX7_readSlot 40 = .ok (.getfield 130, 3) := by decide +kernel
theorem dX7_readSlot_43 : decode cX7_readSlot 43 = .ok (.istore_n 3, 1) := by decide +kernel
theorem dX7_readSlot_44 : decode cX7_readSlot 44 = .ok (.aload_n 0, 1) := by decide +kernel
theorem dX7_readSlot_45 : decode cX7_readSlot 45 = .ok (.invokevirtual 127, 3) := by decide +kernel
theorem dX7_readSlot_48 : decode cX7_readSlot 48 = .ok (.pop, 1) := by decide +kernel
theorem dX7_readSlot_49 : decode cX7_readSlot 49 = .ok (.aload_n 0, 1) := by decide +kernel
theorem dX7_readSlot_50 : decode cX7_readSlot 50 = .ok (.bipush (-32), 2) := by decide +kernel
theorem dX7_readSlot_52 : decode cX7_readSlot 52 = .ok (.bipush 32, 2) := by decide +kernel
theorem dX7_readSlot_54 : decode cX7_readSlot 54 = .ok (.invokevirtual 133, 3) := by decide +kernel
theorem dX7_readSlot_57 : decode cX7_readSlot 57 = .ok (.istore_n 2, 1) := by decide +kernel
theorem dX7_readSlot_58 : decode cX7_readSlot 58 = .ok (.iload_n 2, 1) := by decide +kernel
theorem dX7_readSlot_59 : decode cX7_readSlot 59 = .ok (.ifCond .ne 22, 3) := by decide +kernel
theorem dX7_readSlot_62 : decode cX7_readSlot 62 = .ok (.aload_n 0, 1) := by decide +kernel
theorem dX7_readSlot_63 : decode cX7_readSlot 63 = .ok (.getfield 19, 3) := by decide +kernel
theorem dX7_readSlot_66 : decode cX7_readSlot 66 = .ok (.iload_n 1, 1) := by decide +kernel
theorem dX7_readSlot_67 : decode cX7_readSlot 67 = .ok (.iload_n 3, 1) := by decide +kernel
theorem dX7_readSlot_68 : decode cX7_readSlot 68 = .ok (.aload_n 0, 1) := by decide +kernel
theorem dX7_readSlot_69 : decode cX7_readSlot 69 = .ok (.getfield 130, 3) := by decide +kernel
theorem dX7_readSlot_72 : decode cX7_readSlot 72 = .ok (.invokevirtual 156, 3) := by decide +kernel
theorem dX7_readSlot_75 : decode cX7_readSlot 75 = .ok (.ifCond .eq 6, 3) := by decide +kernel
theorem dX7_readSlot_78 : decode cX7_readSlot 78 = .ok (.bipush 7, 2) := by decide +kernel
theorem dX7_readSlot_80 : decode cX7_readSlot 80 = .ok (.istore_n 2, 1) := by decide +kernel
theorem dX7_readSlot_81 : decode cX7_readSlot 81 = .ok (.iload_n 2, 1) := by decide +kernel
theorem dX7_readSlot_82 : decode cX7_readSlot 82 = .ok (.ifCond .eq 9, 3) := by decide +kernel
theorem dX7_readSlot_85 : decode cX7_readSlot 85 = .ok (.aload_n 0, 1) := by decide +kernel
theorem dX7_readSlot_86 : decode cX7_readSlot 86 = .ok (.iload_n 2, 1) := by decide +kernel
theorem dX7_readSlot_87 : decode cX7_readSlot 87 = .ok (.invokevirtual 48, 3) := by decide +kernel
theorem dX7_readSlot_90 : decode cX7_readSlot 90 = .ok (.ireturn, 1) := by decide +kernel
theorem dX7_readSlot_91 : decode cX7_readSlot 91 = .ok (.aload_n 0, 1) := by decide +kernel
theorem dX7_readSlot_92 : decode cX7_readSlot 92 = .ok (.getfield 130, 3) := by decide +kernel
theorem dX7_readSlot_95 : decode cX7_readSlot 95 = .ok (.istore 4, 2) := by decide +kernel
theorem dX7_readSlot_97 : decode cX7_readSlot 97 = .ok (.aload_n 0, 1) := by decide +kernel
theorem dX7_readSlot_98 : decode cX7_readSlot 98 = .ok (.invokevirtual 127, 3) := by decide +kernel
theorem dX7_readSlot_101 : decode cX7_readSlot 101 = .ok (.pop, 1) := by decide +kernel
theorem dX7_readSlot_102 : decode cX7_readSlot 102 = .ok (.aload_n 0, 1) := by decide +kernel
theorem dX7_readSlot_103 : decode cX7_readSlot 103 = .ok (.getfield 29, 3) := by decide +kernel
theorem dX7_readSlot_106 : decode cX7_readSlot 106 = .ok (.bipush 31, 2) := by decide +kernel
theorem dX7_readSlot_108 : decode cX7_readSlot 108 = .ok (.isub, 1) := by decide +kernel
theorem dX7_readSlot_109 : decode cX7_readSlot 109 = .ok (.istore 5, 2) := by decide +kernel
theorem dX7_readSlot_111 : decode cX7_readSlot 111 = .ok (.iload 5, 2) := by decide +kernel
theorem dX7_readSlot_113 : decode cX7_readSlot 113 = .ok (.ifCond .lt 9, 3) := by decide +kernel
theorem dX7_readSlot_116 : decode cX7_readSlot 116 = .ok (.iload 5, 2) := by decide +kernel
theorem dX7_readSlot_118 : decode cX7_readSlot 118 = .ok (.iconst 4, 1) := by decide +kernel
theorem dX7_readSlot_119 : decode cX7_readSlot 119 = .ok (.if_icmp .le 9, 3) := by decide +kernel
theorem dX7_readSlot_122 : decode cX7_readSlot 122 = .ok (.aload_n 0, 1) := by decide +kernel
theorem dX7_readSlot_123 : decode cX7_readSlot 123 = .ok (.iconst 1, 1) := by decide +kernel
theorem dX7_readSlot_124 : decode cX7_readSlot 124 = .ok (.invokevirtual 48, 3) := by decide +kernel
theorem dX7_readSlot_127 : decode cX7_readSlot 127 = .ok (.ireturn, 1) := by decide +kernel
theorem dX7_readSlot_128 : decode cX7_readSlot 128 = .ok (.aload_n 0, 1) := by decide +kernel
theorem dX7_readSlot_129 : decode cX7_readSlot 129 = .ok (.invokevirtual 127, 3) := by decide +kernel
theorem dX7_readSlot_132 : decode cX7_readSlot 132 = .ok (.pop, 1) := by decide +kernel
theorem dX7_readSlot_133 : decode cX7_readSlot 133 = .ok (.iconst 2, 1) := by decide +kernel
theorem dX7_readSlot_134 : decode cX7_readSlot 134 = .ok (.istore 6, 2) := by decide +kernel
theorem dX7_readSlot_136 : decode cX7_readSlot 136 = .ok (.aload_n 0, 1) := by decide +kernel
theorem dX7_readSlot_137 : decode cX7_readSlot 137 = .ok (.getfield 29, 3) := by decide +kernel
theorem dX7_readSlot_140 : decode cX7_readSlot 140 = .ok (.bipush 36, 2) := by decide +kernel
theorem dX7_readSlot_142 : decode cX7_readSlot 142 = .ok (.if_icmp .eq 12, 3) := by decide +kernel
theorem dX7_readSlot_145 : decode cX7_readSlot 145 = .ok (.aload_n 0, 1) := by decide +kernel
theorem dX7_readSlot_146 : decode cX7_readSlot 146 = .ok (.getfield 29, 3) := by decide +kernel
theorem dX7_readSlot_149 : decode cX7_readSlot 149 = .ok (.bipush 37, 2) := by decide +kernel
theorem dX7_readSlot_151 : decode cX7_readSlot 151 = .ok (.if_icmp .ne 17, 3) := by decide +kernel
theorem dX7_readSlot_154 : decode cX7_readSlot 154 = .ok (.aload_n 0, 1) := by decide +kernel
theorem dX7_readSlot_155 : decode cX7_readSlot 155 = .ok (.getfield 29, 3) := by decide +kernel
theorem dX7_readSlot_158 : decode cX7_readSlot 158 = .ok (.bipush 36, 2) := by decide +kernel
theorem dX7_readSlot_160 : decode cX7_readSlot 160 = .ok (.isub, 1) := by decide +kernel
theorem dX7_readSlot_161 : decode cX7_readSlot 161 = .ok (.istore 6, 2) := by decide +kernel
theorem dX7_readSlot_163 : decode cX7_readSlot 163 = .ok (.aload_n 0, 1) := by decide +kernel
theorem dX7_readSlot_164 : decode cX7_readSlot 164 = .ok (.invokevirtual 127, 3) := by decide +kernel
theorem dX7_readSlot_167 : decode cX7_readSlot 167 = .ok (.pop, 1) := by decide +kernel
theorem dX7_readSlot_168 : decode cX7_readSlot 168 = .ok (.aload_n 0, 1) := by decide +kernel
theorem dX7_readSlot_169 : decode cX7_readSlot 169 = .ok (.getfield 19, 3) := by decide +kernel
theorem dX7_readSlot_172 : decode cX7_readSlot 172 = .ok (.iload_n 1, 1) := by decide +kernel
theorem dX7_readSlot_173 : decode cX7_readSlot 173 = .ok (.iload_n 3, 1) := by decide +kernel
theorem dX7_readSlot_174 : decode cX7_readSlot 174 = .ok (.iload 4, 2) := by decide +kernel
theorem dX7_readSlot_176 : decode cX7_readSlot 176 = .ok (.iload 5, 2) := by decide +kernel
theorem dX7_readSlot_178 : decode cX7_readSlot 178 = .ok (.bipush 8, 2) := by decide +kernel
theorem dX7_readSlot_180 : decode cX7_readSlot 180 = .ok (.iload 6, 2) := by decide +kernel
theorem dX7_readSlot_182 : decode cX7_readSlot 182 = .ok (.imul, 1) := by decide +kernel
theorem dX7_readSlot_183 : decode cX7_readSlot 183 = .ok (.iadd, 1) := by decide +kernel
theorem dX7_readSlot_184 : decode cX7_readSlot 184 = .ok (.invokevirtual 160, 3) := by decide +kernel
theorem dX7_readSlot_187 : decode cX7_readSlot 187 = .ok (.iconst 1, 1) := by decide +kernel
theorem dX7_readSlot_188 : decode cX7_readSlot 188 = .ok (.ireturn, 1) := by decide +kernel
abbrev rm_f_X7_readSlot : Room := { frames := 3, cells := 0, slots := 0, locals := 70 }
def f_X7_readSlot (N : Nat) (a0 : Int) (t : St) : Option (Int × St) :=
    bdI (f_X7_numberFault N (-32) 32 t) fun v2 t1 =>
    jn1 (fun (j3 : Int) (t4 : St) => cmpI j3 0 (if j3 = 0 then (lt1 (t4.1 303 8) fun v6 =>
    bdI (f_X7_pass N t4) fun v8 t7 =>
    bdI (f_X7_numberFault N (-32) 32 t7) fun v10 t9 =>
    jn1 (fun (j11 : Int) (t12 : St) => cmpI j11 0 (if j11 = 0 then (lt1 (t12.1 303 8) fun v14 =>
    bdI (f_X7_pass N t12) fun v16 t15 =>
    lt1 (t15.1 303 3) fun v17 =>
    jn1 (fun (t18 : St) => bdI (f_X7_wrong N 1 t18) fun v21 t20 =>
    boI v21 (some (v21, t20))) fun J19 =>
    cmpI (v17 - 31) 0 (if (v17 - 31) < 0 then (J19 t15)
    else (cmpI (v17 - 31) 4 (if 4 < (v17 - 31) then (J19 t15)
    else (bdI (f_X7_pass N t15) fun v23 t22 =>
    lt1 (t22.1 303 3) fun v24 =>
    jn1 (fun (j25 : Int) (t26 : St) => bdV (f_X0_addSlot N a0 v6 v14 ((v17 - 31) + (8 * j25)) t26) fun t28 =>
    boI 1 (some (1, t28))) fun J27 =>
    jn1 (fun (t29 : St) => lt1 (t29.1 303 3) fun v31 =>
    bdI (f_X7_pass N t29) fun v33 t32 =>
    J27 (v31 - 36) t32) fun J30 =>
    cmpI v24 36 (if v24 = 36 then (J30 t22)
    else (lt1 (t22.1 303 3) fun v34 =>
    cmpI v34 37 (if v34 = 37 then (J30 t22)
    else (J27 2 t22)))))))))
    else (bdI (f_X7_wrong N j11 t12) fun v36 t35 =>
    boI v36 (some (v36, t35))))) fun J13 =>
    cmpI v10 0 (if v10 = 0 then (lt1 (t9.1 303 8) fun v37 =>
    bdI (f_X0_hasSlot N a0 v6 v37 t9) fun v39 t38 =>
    cmpI v39 0 (if v39 = 0 then (J13 v10 t38)
    else (J13 7 t38)))
    else (J13 v10 t9)))
    else (bdI (f_X7_wrong N j3 t4) fun v41 t40 =>
    boI v41 (some (v41, t40))))) fun J5 =>
    cmpI v2 0 (if v2 = 0 then (ixI a0 40 (lt1 (t1.1 350 a0.toNat) fun v42 =>
    cmpI v42 8 (if v42 < 8 then (J5 v2 t1)
    else (J5 5 t1))))
    else (J5 v2 t1))
set_option maxHeartbeats 4000000 in
set_option maxRecDepth 100000 in
theorem b_f_X7_readSlot {p : Program} {l : Launch} {e : Env} {s : State} {m : MethodId} {args : Array Value} {below : List Frame} {meth : Method} {c : Code} {E : cE} {A : Nat → Prop} {r : Nat → Nat} {mc ms : Nat} {z : Int × St} {N : Nat} {a0 : Int} {t : St} (X : gX p s m meth c cX7_readSlot 7 (some .boolean) yX7_readSlot args E A) (h : f_X7_readSlot N a0 t = some z) : gP p l e rm_f_X7_readSlot s m args below meth c E A 7 (MQ below ((gqI E (gW E r shH) z) A) args s mc ms A) (gW E r shH) 0 [(0, .ref (r 303)), (1, iv a0)] [] t := by
  unfold f_X7_readSlot at h
  refine g_aload_n X dX7_readSlot_0 0 rfl ?_
  refine g_bipush X dX7_readSlot_1 (by decide) ?_
  refine g_bipush X dX7_readSlot_3 (by decide) ?_
  refine g_callOI (rest := []) X (fun u9 h9 => cp_X7_numberFault l E r N (-32) 32 t u9 h9) yy_X7_numberFault yi_X7_numberFault wdM_RX7_133 ⟨_, _, oH_303⟩ rfl rfl rfl (Nat.le_of_ble_eq_true rfl) dX7_readSlot_5 ⟨by decide, by decide⟩ ⟨rfl, rfl⟩ h (fun v2 t1 h => ?_)
  refine g_istore_n (lv' := [(2, iv v2), (0, .ref (r 303)), (1, iv a0)]) X dX7_readSlot_8 rfl (by decide) rfl ?_
  refine g_iload_n X dX7_readSlot_9 0 rfl ?_
  refine g_join (J := fun jj => ∀ (j3 : Int) (t4 : St), jj j3 t4 = some z → gP p l e rm_f_X7_readSlot s m args below meth c E A 7 (MQ below ((gqI E (gW E r shH) z) A) args s mc ms A) (gW E r shH) 29 [(0, .ref (r 303)), (1, iv a0), (2, iv j3)] [] t4) h (fun j3 t4 h => ?_) (fun J5 hJ5 h => ?_)
  · refine g_iload_n X dX7_readSlot_29 2 rfl ?_
    refine g_if_eq (tgt := 39) X dX7_readSlot_30 (by decide) h (fun h => ?_) (fun h => ?_)
    · refine g_aload_n X dX7_readSlot_39 0 rfl ?_
      refine g_getI X fH_X7_130_303 rfl dX7_readSlot_40 h (fun v6 h => ?_)
      refine g_istore_n (lv' := [(3, iv v6), (0, .ref (r 303)), (1, iv a0), (2, iv j3)]) X dX7_readSlot_43 rfl (by decide) rfl ?_
      refine g_aload_n X dX7_readSlot_44 1 rfl ?_
      refine g_callOI (rest := []) X (fun u9 h9 => cp_X7_pass l E r N t4 u9 h9) yy_X7_pass yi_X7_pass wdM_RX7_127 ⟨_, _, oH_303⟩ rfl rfl rfl (Nat.le_of_ble_eq_true rfl) dX7_readSlot_45 ⟨by decide, by decide⟩ ⟨rfl, rfl⟩ h (fun v8 t7 h => ?_)
      refine g_pop X rfl dX7_readSlot_48 ?_
      refine g_aload_n X dX7_readSlot_49 1 rfl ?_
      refine g_bipush X dX7_readSlot_50 (by decide) ?_
      refine g_bipush X dX7_readSlot_52 (by decide) ?_
      refine g_callOI (rest := []) X (fun u9 h9 => cp_X7_numberFault l E r N (-32) 32 t7 u9 h9) yy_X7_numberFault yi_X7_numberFault wdM_RX7_133 ⟨_, _, oH_303⟩ rfl rfl rfl (Nat.le_of_ble_eq_true rfl) dX7_readSlot_54 ⟨by decide, by decide⟩ ⟨rfl, rfl⟩ h (fun v10 t9 h => ?_)
      refine g_istore_n (lv' := [(2, iv v10), (3, iv v6), (0, .ref (r 303)), (1, iv a0)]) X dX7_readSlot_57 rfl (by decide) rfl ?_
      refine g_iload_n X dX7_readSlot_58 0 rfl ?_
      refine g_join (J := fun jj => ∀ (j11 : Int) (t12 : St), jj j11 t12 = some z → gP p l e rm_f_X7_readSlot s m args below meth c E A 7 (MQ below ((gqI E (gW E r shH) z) A) args s mc ms A) (gW E r shH) 81 [(0, .ref (r 303)), (1, iv a0), (2, iv j11), (3, iv v6)] [] t12) h (fun j11 t12 h => ?_) (fun J13 hJ13 h => ?_)
      · refine g_iload_n X dX7_readSlot_81 2 rfl ?_
        refine g_if_eq (tgt := 91) X dX7_readSlot_82 (by decide) h (fun h => ?_) (fun h => ?_)
        · refine g_aload_n X dX7_readSlot_91 0 rfl ?_
          refine g_getI X fH_X7_130_303 rfl dX7_readSlot_92 h (fun v14 h => ?_)
          refine g_istore (lv' := [(4, iv v14), (0, .ref (r 303)), (1, iv a0), (2, iv j11), (3, iv v6)]) X dX7_readSlot_95 (by decide) rfl ?_
          refine g_aload_n X dX7_readSlot_97 1 rfl ?_
          refine g_callOI (rest := []) X (fun u9 h9 => cp_X7_pass l E r N t12 u9 h9) yy_X7_pass yi_X7_pass wdM_RX7_127 ⟨_, _, oH_303⟩ rfl rfl rfl (Nat.le_of_ble_eq_true rfl) dX7_readSlot_98 ⟨by decide, by decide⟩ ⟨rfl, rfl⟩ h (fun v16 t15 h => ?_)
          refine g_pop X rfl dX7_readSlot_101 ?_
          refine g_aload_n X dX7_readSlot_102 1 rfl ?_
          refine g_getI X fH_X7_29_303 rfl dX7_readSlot_103 h (fun v17 h => ?_)
          refine g_bipush X dX7_readSlot_106 (by decide) ?_
          refine g_isub X dX7_readSlot_108 ?_
          refine g_istore (lv' := [(5, iv (v17 - 31)), (4, iv v14), (0, .ref (r 303)), (1, iv a0), (2, iv j11), (3, iv v6)]) X dX7_readSlot_109 (by decide) rfl ?_
          refine g_iload X dX7_readSlot_111 0 rfl ?_
          refine g_join (J := fun jj => ∀ (t18 : St), jj  t18 = some z → gP p l e rm_f_X7_readSlot s m args below meth c E A 7 (MQ below ((gqI E (gW E r shH) z) A) args s mc ms A) (gW E r shH) 122 [(0, .ref (r 303))] [] t18) h (fun  t18 h => ?_) (fun J19 hJ19 h => ?_)
          · refine g_aload_n X dX7_readSlot_122 0 rfl ?_
            refine g_iconst X dX7_readSlot_123 ?_
            refine g_callOI (rest := []) X (fun u9 h9 => cp_X7_wrong l E r N 1 t18 u9 h9) yy_X7_wrong yi_X7_wrong wdM_RX7_48 ⟨_, _, oH_303⟩ rfl rfl rfl (Nat.le_of_ble_eq_true rfl) dX7_readSlot_124 ⟨by decide, by decide⟩ ⟨rfl, rfl⟩ h (fun v21 t20 h => ?_)
            exact g_zret X h dX7_readSlot_127
          refine g_if_lt (tgt := 122) X dX7_readSlot_113 (by decide) h (fun h => ?_) (fun h => ?_)
          · exact g_sub (lv' := [(0, .ref (r 303))]) [2] rfl (hJ19 t15 h)
          · refine g_iload X dX7_readSlot_116 0 rfl ?_
            refine g_iconst X dX7_readSlot_118 ?_
            refine g_icmp_le (tgt := 128) X dX7_readSlot_119 (by decide) h (fun h => ?_) (fun h => ?_)
            · refine g_aload_n X dX7_readSlot_128 2 rfl ?_
              refine g_callOI (rest := []) X (fun u9 h9 => cp_X7_pass l E r N t15 u9 h9) yy_X7_pass yi_X7_pass wdM_RX7_127 ⟨_, _, oH_303⟩ rfl rfl rfl (Nat.le_of_ble_eq_true rfl) dX7_readSlot_129 ⟨by decide, by decide⟩ ⟨rfl, rfl⟩ h (fun v23 t22 h => ?_)
              refine g_pop X rfl dX7_readSlot_132 ?_
              refine g_iconst X dX7_readSlot_133 ?_
              refine g_istore (lv' := [(6, iv 2), (5, iv (v17 - 31)), (4, iv v14), (0, .ref (r 303)), (1, iv a0), (2, iv j11), (3, iv v6)]) X dX7_readSlot_134 (by decide) rfl ?_
              refine g_aload_n X dX7_readSlot_136 3 rfl ?_
              refine g_getI X fH_X7_29_303 rfl dX7_readSlot_137 h (fun v24 h => ?_)
              refine g_bipush X dX7_readSlot_140 (by decide) ?_
              refine g_join (J := fun jj => ∀ (j25 : Int) (t26 : St), jj j25 t26 = some z → gP p l e rm_f_X7_readSlot s m args below meth c E A 7 (MQ below ((gqI E (gW E r shH) z) A) args s mc ms A) (gW E r shH) 168 [(0, .ref (r 303)), (1, iv a0), (3, iv v6), (4, iv v14), (5, iv (v17 - 31)), (6, iv j25)] [] t26) h (fun j25 t26 h => ?_) (fun J27 hJ27 h => ?_)
              · refine g_aload_n X dX7_readSlot_168 0 rfl ?_
                refine g_getR X fH_X7_19_303 rfl dX7_readSlot_169 ?_
                refine g_iload_n X dX7_readSlot_172 1 rfl ?_
                refine g_iload_n X dX7_readSlot_173 2 rfl ?_
                refine g_iload X dX7_readSlot_174 3 rfl ?_
                refine g_iload X dX7_readSlot_176 4 rfl ?_
                refine g_bipush X dX7_readSlot_178 (by decide) ?_
                refine g_iload X dX7_readSlot_180 5 rfl ?_
                refine g_imul X dX7_readSlot_182 ?_
                refine g_iadd X dX7_readSlot_183 ?_
                refine g_callOV (rest := []) X (fun u9 h9 => cp_X0_addSlot l E r N a0 v6 v14 ((v17 - 31) + (8 * j25)) t26 u9 h9) yy_X0_addSlot yi_X0_addSlot wdM_RX7_160 ⟨_, _, oH_302⟩ rfl rfl rfl (Nat.le_of_ble_eq_true rfl) dX7_readSlot_184 ⟨by decide, by decide⟩ ⟨rfl, rfl⟩ h (fun t28 h => ?_)
                refine g_iconst X dX7_readSlot_187 ?_
                exact g_zret X h dX7_readSlot_188
              refine g_join (J := fun jj => ∀ (t29 : St), jj  t29 = some z → gP p l e rm_f_X7_readSlot s m args below meth c E A 7 (MQ below ((gqI E (gW E r shH) z) A) args s mc ms A) (gW E r shH) 154 [(0, .ref (r 303)), (1, iv a0), (3, iv v6), (4, iv v14), (5, iv (v17 - 31))] [] t29) h (fun  t29 h => ?_) (fun J30 hJ30 h => ?_)
              · refine g_aload_n X dX7_readSlot_154 0 rfl ?_
                refine g_getI X fH_X7_29_303 rfl dX7_readSlot_155 h (fun v31 h => ?_)
                refine g_bipush X dX7_readSlot_158 (by decide) ?_
                refine g_isub X dX7_readSlot_160 ?_
                refine g_istore (lv' := [(6, iv (v31 - 36)), (0, .ref (r 303)), (1, iv a0), (3, iv v6), (4, iv v14), (5, iv (v17 - 31))]) X dX7_readSlot_161 (by decide) rfl ?_
                refine g_aload_n X dX7_readSlot_163 1 rfl ?_
                refine g_callOI (rest := []) X (fun u9 h9 => cp_X7_pass l E r N t29 u9 h9) yy_X7_pass yi_X7_pass wdM_RX7_127 ⟨_, _, oH_303⟩ rfl rfl rfl (Nat.le_of_ble_eq_true rfl) dX7_readSlot_164 ⟨by decide, by decide⟩ ⟨rfl, rfl⟩ h (fun v33 t32 h => ?_)
                refine g_pop X rfl dX7_readSlot_167 ?_
                exact g_sub (lv' := [(0, .ref (r 303)), (1, iv a0), (3, iv v6), (4, iv v14), (5, iv (v17 - 31)), (6, iv (v31 - 36))]) [1, 2, 3, 4, 5, 0] rfl (hJ27 (v31 - 36) t32 h)
              refine g_icmp_eq (tgt := 154) X dX7_readSlot_142 (by decide) h (fun h => ?_) (fun h => ?_)
              · exact g_sub (lv' := [(0, .ref (r 303)), (1, iv a0), (3, iv v6), (4, iv v14), (5, iv (v17 - 31))]) [3, 4, 6, 2, 1] rfl (hJ30 t22 h)
              · refine g_aload_n X dX7_readSlot_145 3 rfl ?_
                refine g_getI X fH_X7_29_303 rfl dX7_readSlot_146 h (fun v34 h => ?_)
                refine g_bipush X dX7_readSlot_149 (by decide) ?_
                refine g_icmp_ne (tgt := 168) X dX7_readSlot_151 (by decide) h (fun h => ?_) (fun h => ?_)
                · exact g_sub (lv' := [(0, .ref (r 303)), (1, iv a0), (3, iv v6), (4, iv v14), (5, iv (v17 - 31)), (6, iv 2)]) [3, 4, 6, 2, 1, 0] rfl (hJ27 2 t22 h)
                · exact g_sub (lv' := [(0, .ref (r 303)), (1, iv a0), (3, iv v6), (4, iv v14), (5, iv (v17 - 31))]) [3, 4, 6, 2, 1] rfl (hJ30 t22 h)
            · exact g_sub (lv' := [(0, .ref (r 303))]) [2] rfl (hJ19 t15 h)
        · refine g_aload_n X dX7_readSlot_85 0 rfl ?_
          refine g_iload_n X dX7_readSlot_86 2 rfl ?_
          refine g_callOI (rest := []) X (fun u9 h9 => cp_X7_wrong l E r N j11 t12 u9 h9) yy_X7_wrong yi_X7_wrong wdM_RX7_48 ⟨_, _, oH_303⟩ rfl rfl rfl (Nat.le_of_ble_eq_true rfl) dX7_readSlot_87 ⟨by decide, by decide⟩ ⟨rfl, rfl⟩ h (fun v36 t35 h => ?_)
          exact g_zret X h dX7_readSlot_90
      refine g_if_ne (tgt := 81) X dX7_readSlot_59 (by decide) h (fun h => ?_) (fun h => ?_)
      · exact g_sub (lv' := [(0, .ref (r 303)), (1, iv a0), (2, iv v10), (3, iv v6)]) [2, 3, 0, 1] rfl (hJ13 v10 t9 h)
      · refine g_aload_n X dX7_readSlot_62 2 rfl ?_
        refine g_getR X fH_X7_19_303 rfl dX7_readSlot_63 ?_
        refine g_iload_n X dX7_readSlot_66 3 rfl ?_
        refine g_iload_n X dX7_readSlot_67 1 rfl ?_
        refine g_aload_n X dX7_readSlot_68 2 rfl ?_
        refine g_getI X fH_X7_130_303 rfl dX7_readSlot_69 h (fun v37 h => ?_)
        refine g_callOI (rest := []) X (fun u9 h9 => cp_X0_hasSlot l E r N a0 v6 v37 t9 u9 h9) yy_X0_hasSlot yi_X0_hasSlot wdM_RX7_156 ⟨_, _, oH_302⟩ rfl rfl rfl (Nat.le_of_ble_eq_true rfl) dX7_readSlot_72 ⟨by decide, by decide⟩ ⟨rfl, rfl⟩ h (fun v39 t38 h => ?_)
        refine g_if_eq (tgt := 81) X dX7_readSlot_75 (by decide) h (fun h => ?_) (fun h => ?_)
        · exact g_sub (lv' := [(0, .ref (r 303)), (1, iv a0), (2, iv v10), (3, iv v6)]) [2, 3, 0, 1] rfl (hJ13 v10 t38 h)
        · refine g_bipush X dX7_readSlot_78 (by decide) ?_
          refine g_istore_n (lv' := [(2, iv 7), (3, iv v6), (0, .ref (r 303)), (1, iv a0)]) X dX7_readSlot_80 rfl (by decide) rfl ?_
          exact g_sub (lv' := [(0, .ref (r 303)), (1, iv a0), (2, iv 7), (3, iv v6)]) [2, 3, 0, 1] rfl (hJ13 7 t38 h)
    · refine g_aload_n X dX7_readSlot_33 0 rfl ?_
      refine g_iload_n X dX7_readSlot_34 2 rfl ?_
      refine g_callOI (rest := []) X (fun u9 h9 => cp_X7_wrong l E r N j3 t4 u9 h9) yy_X7_wrong yi_X7_wrong wdM_RX7_48 ⟨_, _, oH_303⟩ rfl rfl rfl (Nat.le_of_ble_eq_true rfl) dX7_readSlot_35 ⟨by decide, by decide⟩ ⟨rfl, rfl⟩ h (fun v41 t40 h => ?_)
      exact g_zret X h dX7_readSlot_38
  refine g_if_ne (tgt := 29) X dX7_readSlot_10 (by decide) h (fun h => ?_) (fun h => ?_)
  · exact g_sub (lv' := [(0, .ref (r 303)), (1, iv a0), (2, iv v2)]) [1, 2, 0] rfl (hJ5 v2 t1 h)
  · refine g_aload_n X dX7_readSlot_13 1 rfl ?_
    refine g_getR X fH_X7_19_303 rfl dX7_readSlot_14 ?_
    refine g_getR X fH_X7_150_302 rfl dX7_readSlot_17 ?_
    refine g_iload_n X dX7_readSlot_20 2 rfl ?_
    refine g_iald X aH_350 dX7_readSlot_21 h (fun v42 h => ?_)
    refine g_bipush X dX7_readSlot_22 (by decide) ?_
    refine g_icmp_lt (tgt := 29) X dX7_readSlot_24 (by decide) h (fun h => ?_) (fun h => ?_)
    · exact g_sub (lv' := [(0, .ref (r 303)), (1, iv a0), (2, iv v2)]) [1, 2, 0] rfl (hJ5 v2 t1 h)
    · refine g_iconst X dX7_readSlot_27 ?_
      refine g_istore_n (lv' := [(2, iv 5), (0, .ref (r 303)), (1, iv a0)]) X dX7_readSlot_28 rfl (by decide) rfl ?_
      exact g_sub (lv' := [(0, .ref (r 303)), (1, iv a0), (2, iv 5)]) [1, 2, 0] rfl (hJ5 5 t1 h)
set_option maxHeartbeats 4000000 in
set_option maxRecDepth 100000 in
theorem cp_X7_readSlot (l : Launch) (E : cE) (r : Nat → Nat) (N : Nat) (a0 : Int) (t : St) (z : Int × St) (h : f_X7_readSlot N a0 t = some z) : cM l E yX7_readSlot cX7_readSlot 7 (some .boolean) rm_f_X7_readSlot [.ref (r 303), iv a0] (gW E r shH t) (gqI E (gW E r shH) z) := by
  refine g_of (w := gW E r shH) (by decide) (Nat.le_of_ble_eq_true rfl) ?_
  intro p e s m below meth c A X
  exact g_sub (lv' := [(0, .ref (r 303)), (1, iv a0)]) [0, 1] rfl (b_f_X7_readSlot X h)
theorem yy_X7_readSlot : cY yX7_readSlot cX7_readSlot 7 (some .boolean) 1 := ⟨wdK_X7_readSlot, wdZ_RX7, by decide +kernel⟩
theorem yi_X7_readSlot : cYi yX7_readSlot := ⟨wdN_X7_readSlot, wdS_X7_readSlot⟩
theorem dX7_readForm_0 : decode cX7_readForm 0 = .ok (.aload_n 0, 1) := by decide +kernel
theorem dX7_readForm_1 : decode cX7_readForm 1 = .ok (.getfield 19, 3) := by decide +kernel
theorem dX7_readForm_4 : decode cX7_readForm 4 = .ok (.getfield 103, 3) := by decide +kernel
theorem dX7_readForm_7 : decode cX7_readForm 7 = .ok (.getfield 107, 3) := by decide +kernel
theorem dX7_readForm_10 : decode cX7_readForm 10 = .ok (.istore_n 1, 1) := by decide +kernel
theorem dX7_readForm_11 : decode cX7_readForm 11 = .ok (.aload_n 0, 1) := by decide +kernel
theorem dX7_readForm_12 : decode cX7_readForm 12 = .ok (.getfield 19, 3) := by decide +kernel
theorem dX7_readForm_15 : decode cX7_readForm 15 = .ok (.getfield 103, 3) := by decide +kernel
theorem dX7_readForm_18 : decode cX7_readForm 18 = .ok (.invokevirtual 140, 3) := by decide +kernel
theorem dX7_readForm_21 : decode cX7_readForm 21 = .ok (.ifCond .eq 9, 3) := by decide +kernel
theorem dX7_readForm_24 : decode cX7_readForm 24 = .ok (.aload_n 0, 1) := by decide +kernel
theorem dX7_readForm_25 : decode cX7_readForm 25 = .ok (.iconst 5, 1) := by decide +kernel
theorem dX7_readForm_26 : decode cX7_readForm 26 = .ok (.invokevirtual 48, 3) := by decide +kernel
theorem dX7_readForm_29 : decode cX7_readForm 29 = .ok (.ireturn, 1) := by decide +kernel
theorem dX7_readForm_30 : decode cX7_readForm 30 = .ok (.aload_n 0, 1) := by decide +kernel
theorem dX7_readForm_31 : decode cX7_readForm 31 = .ok (.invokevirtual 127, 3) := by decide +kernel
theorem dX7_readForm_34 : decode cX7_readForm 34 = .ok (.ifCond .eq 10, 3) := by decide +kernel
theorem dX7_readForm_37 : decode cX7_readForm 37 = .ok (.aload_n 0, 1) := by decide +kernel
theorem dX7_readForm_38 : decode cX7_readForm 38 = .ok (.invokevirtual 143, 3) := by decide +kernel
theorem dX7_readForm_41 : decode cX7_readForm 41 = .ok (.ifCond .ne 5, 3) := by decide +kernel
theorem dX7_readForm_44 : decode cX7_readForm 44 = .ok (.iconst 0, 1) := by decide +kernel
theorem dX7_readForm_45 : decode cX7_readForm 45 = .ok (.ireturn, 1) := by decide +kernel
theorem dX7_readForm_46 : decode cX7_readForm 46 = .ok (.aload_n 0, 1) := by decide +kernel
theorem dX7_readForm_47 : decode cX7_readForm 47 = .ok (.getfield 19, 3) := by decide +kernel
theorem dX7_readForm_50 : decode cX7_readForm 50 = .ok (.getfield 103, 3) := by decide +kernel
theorem dX7_readForm_53 : decode cX7_readForm 53 = .ok (.aload_n 0, 1) := by decide +kernel
theorem dX7_readForm_54 : decode cX7_readForm 54 = .ok (.getfield 15, 3) := by decide +kernel
theorem dX7_readForm_57 : decode cX7_readForm 57 = .ok (.getfield 67, 3) := by decide +kernel
theorem dX7_readForm_60 : decode cX7_readForm 60 = .ok (.aload_n 0, 1) := by decide +kernel
theorem dX7_readForm_61 : decode cX7_readForm 61 = .ok (.getfield 77, 3) := by decide +kernel
theorem dX7_readForm_64 : decode cX7_readForm 64 = .ok (.iconst 1, 1) := by decide +kernel
theorem dX7_readForm_65 : decode cX7_readForm 65 = .ok (.isub, 1) := by decide +kernel
theorem dX7_readForm_66 : decode cX7_readForm 66 = .ok (.invokevirtual 146, 3) := by decide +kernel
theorem dX7_readForm_69 : decode cX7_readForm 69 = .ok (.aload_n 0, 1) := by decide +kernel
theorem dX7_readForm_70 : decode cX7_readForm 70 = .ok (.getfield 19, 3) := by decide +kernel
theorem dX7_readForm_73 : decode cX7_readForm 73 = .ok (.getfield 150, 3) := by decide +kernel
theorem dX7_readForm_76 : decode cX7_readForm 76 = .ok (.iload_n 1, 1) := by decide +kernel
theorem dX7_readForm_77 : decode cX7_readForm 77 = .ok (.iconst 0, 1) := by decide +kernel
theorem dX7_readForm_78 : decode cX7_readForm 78 = .ok (.iastore, 1) := by decide +kernel
theorem dX7_readForm_79 : decode cX7_readForm 79 = .ok (.aload_n 0, 1) := by decide +kernel
theorem dX7_readForm_80 : decode cX7_readForm 80 = .ok (.bipush 46, 2) := by decide +kernel
theorem dX7_readForm_82 : decode cX7_readForm 82 = .ok (.invokevirtual 58, 3) := by decide +kernel
theorem dX7_readForm_85 : decode cX7_readForm 85 = .ok (.ifCond .ne 5, 3) := by decide +kernel
theorem dX7_readForm_88 : decode cX7_readForm 88 = .ok (.iconst 0, 1) := by decide +kernel
theorem dX7_readForm_89 : decode cX7_readForm 89 = .ok (.ireturn, 1) := by decide +kernel
theorem dX7_readForm_90 : decode cX7_readForm 90 = .ok (.iconst 0, 1) := by decide +kernel
theorem dX7_readForm_91 : decode cX7_readForm 91 = .ok (.istore_n 2, 1) := by decide +kernel
theorem dX7_readForm_92 : decode cX7_readForm 92 = .ok (.iload_n 2, 1) := by decide +kernel
theorem dX7_readForm_93 : decode cX7_readForm 93 = .ok (.bipush 8, 2) := by decide +kernel
theorem dX7_readForm_95 : decode cX7_readForm 95 = .ok (.if_icmp .gt 40, 3) := by decide +kernel
theorem dX7_readForm_98 : decode cX7_readForm 98 = .ok (.aload_n 0, 1) := by decide +kernel
theorem dX7_readForm_99 : decode cX7_readForm 99 = .ok (.iload_n 1, 1) := by decide +kernel
theorem dX7_readForm_100 : decode cX7_readForm 100 = .ok (.invokevirtual 153, 3) := by decide +kernel
theorem dX7_readForm_103 : decode cX7_readForm 103 = .ok (.ifCond .ne 5, 3) := by decide +kernel
theorem dX7_readForm_106 : decode cX7_readForm 106 = .ok (.iconst 0, 1) := by decide +kernel
theorem dX7_readForm_107 : decode cX7_readForm 107 = .ok (.ireturn, 1) := by decide +kernel
theorem dX7_readForm_108 : decode cX7_readForm 108 = .ok (.aload_n 0, 1) := by decide +kernel
theorem dX7_readForm_109 : decode cX7_readForm 109 = .ok (.getfield 29, 3) := by decide +kernel
theorem dX7_readForm_112 : decode cX7_readForm 112 = .ok (.bipush 44, 2) := by decide +kernel
theorem dX7_readForm_114 : decode cX7_readForm 114 = .ok (.if_icmp .eq 10, 3) := by decide +kernel
theorem dX7_readForm_117 : decode cX7_readForm 117 = .ok (.aload_n 0, 1) := by decide +kernel
theorem dX7_readForm_118 : decode cX7_readForm 118 = .ok (.bipush 45, 2) := by decide +kernel
theorem dX7_readForm_120 : decode cX7_readForm 120 = .ok (.invokevirtual 58, 3) := by decide +kernel
theorem dX7_readForm_123 : decode cX7_readForm 123 = .ok (.ireturn, 1) := by decide +kernel
theorem dX7_readForm_124 : decode cX7_readForm 124 = .ok (.aload_n 0, 1) := by decide +kernel
theorem dX7_readForm_125 : decode cX7_readForm 125 = .ok (.invokevirtual 127, 3) := by decide +kernel
theorem dX7_readForm_128 : decode cX7_readForm 128 = .ok (.pop, 1) := by decide +kernel
theorem dX7_readForm_129 : decode cX7_readForm 129 = .ok (.iinc 2 1, 3) := by decide +kernel
theorem dX7_readForm_132 : decode cX7_readForm 132 = .ok (.goto (-40), 3) := by decide +kernel
theorem dX7_readForm_135 : decode cX7_readForm 135 = .ok (.iconst 0, 1) := by decide +kernel
theorem dX7_readForm_136 : decode cX7_readForm 136 = .ok (.ireturn, 1) := by decide +kernel
abbrev rm_f_X7_readForm : Room := { frames := 4, cells := 0, slots := 0, locals := 96 }
def f_X7_readForm_L92 (N : Nat) (K16 : (St → Option (Int × St))) (K17 : (St → Option (Int × St))) (y13 : Int) : Nat → Int → St → Option (Int × St)
  | 0, _, _ => none
  | n9 + 1, x14, t15 =>
    cmpI x14 8 (if 8 < x14 then (K17 t15)
    else (bdI (f_X7_readSlot N y13 t15) fun v19 t18 =>
    cmpI v19 0 (if v19 = 0 then (boI 0 (some (0, t18)))
    else (lt1 (t18.1 303 3) fun v20 =>
    cmpI v20 44 (if v20 = 44 then (bdI (f_X7_pass N t18) fun v22 t21 =>
    f_X7_readForm_L92 N K16 K17 y13 n9 (x14 + 1) t21)
    else (K16 t18))))))
def f_X7_readForm (N : Nat) (t : St) : Option (Int × St) :=
    lt1 (t.1 (312 + 0) 2) fun v1 =>
    bdI (f_X6_isFull N 0 t) fun v3 t2 =>
    cmpI v3 0 (if v3 = 0 then (bdI (f_X7_pass N t2) fun v5 t4 =>
    cmpI v5 0 (if v5 = 0 then (boI 0 (some (0, t4)))
    else (bdI (f_X7_takeNew N t4) fun v7 t6 =>
    cmpI v7 0 (if v7 = 0 then (boI 0 (some (0, t6)))
    else (lt1 (t6.1 303 2) fun v8 =>
    bdV (f_X6_add N 0 335 12294 (v8 - 1) t6) fun t9 =>
    ixI v1 40 (lt1 (pI t9 350 v1.toNat 0) fun t10 =>
    bdI (f_X7_take N 46 t10) fun v12 t11 =>
    cmpI v12 0 (if v12 = 0 then (boI 0 (some (0, t11)))
    else (f_X7_readForm_L92 N (fun (t23 : St) => bdI (f_X7_take N 45 t23) fun v25 t24 =>
    boI v25 (some (v25, t24))) (fun (t26 : St) => boI 0 (some (0, t26))) v1 N 0 t11))))))))
    else (bdI (f_X7_wrong N 5 t2) fun v28 t27 =>
    boI v28 (some (v28, t27))))
set_option maxHeartbeats 4000000 in
set_option maxRecDepth 100000 in
theorem t_f_X7_readForm_L92 {p : Program} {l : Launch} {e : Env} {s : State} {m : MethodId} {args : Array Value} {below : List Frame} {meth : Method} {c : Code} {E : cE} {A : Nat → Prop} {r : Nat → Nat} {mc ms : Nat} {z : Int × St} {N : Nat} {K16 : (St → Option (Int × St))} {K17 : (St → Option (Int × St))} {y13 : Int} (X : gX p s m meth c cX7_readForm 3 (some .boolean) yX7_readForm args E A) (hK16 : ∀ (t9 : St), K16 t9 = some z → gP p l e rm_f_X7_readForm s m args below meth c E A 3 (MQ below ((gqI E (gW E r shH) z) A) args s mc ms A) (gW E r shH) 117 [(0, .ref (r 303))] [] t9) (hK17 : ∀ (t9 : St), K17 t9 = some z → gP p l e rm_f_X7_readForm s m args below meth c E A 3 (MQ below ((gqI E (gW E r shH) z) A) args s mc ms A) (gW E r shH) 135 [] [] t9) : ∀ (n9 : Nat) (x14 : Int) (t15 : St), f_X7_readForm_L92 N K16 K17 y13 n9 x14 t15 = some z → gP p l e rm_f_X7_readForm s m args below meth c E A 3 (MQ below ((gqI E (gW E r shH) z) A) args s mc ms A) (gW E r shH) 92 [(0, .ref (r 303)), (1, iv y13), (2, iv x14)] [] t15 := by
  intro n9
  induction n9 with
  | zero => intro x14 t15 h; cases h
  | succ n9 ih =>
    intro x14 t15 h
    unfold f_X7_readForm_L92 at h
    refine g_iload_n X dX7_readForm_92 2 rfl ?_
    refine g_bipush X dX7_readForm_93 (by decide) ?_
    refine g_icmp_gt (tgt := 135) X dX7_readForm_95 (by decide) h (fun h => ?_) (fun h => ?_)
    · exact g_sub (lv' := []) [] rfl (hK17 t15 h)
    · refine g_aload_n X dX7_readForm_98 0 rfl ?_
      refine g_iload_n X dX7_readForm_99 1 rfl ?_
      refine g_callOI (rest := []) X (fun u9 h9 => cp_X7_readSlot l E r N y13 t15 u9 h9) yy_X7_readSlot yi_X7_readSlot wdM_RX7_153 ⟨_, _, oH_303⟩ rfl rfl rfl (Nat.le_of_ble_eq_true rfl) dX7_readForm_100 ⟨by decide, by decide⟩ ⟨rfl, rfl⟩ h (fun v19 t18 h => ?_)
      refine g_if_ne (tgt := 108) X dX7_readForm_103 (by decide) h (fun h => ?_) (fun h => ?_)
      · refine g_aload_n X dX7_readForm_108 0 rfl ?_
        refine g_getI X fH_X7_29_303 rfl dX7_readForm_109 h (fun v20 h => ?_)
        refine g_bipush X dX7_readForm_112 (by decide) ?_
        refine g_icmp_eq (tgt := 124) X dX7_readForm_114 (by decide) h (fun h => ?_) (fun h => ?_)
        · refine g_aload_n X dX7_readForm_124 0 rfl ?_
          refine g_callOI (rest := []) X (fun u9 h9 => cp_X7_pass l E r N t18 u9 h9) yy_X7_pass yi_X7_pass wdM_RX7_127 ⟨_, _, oH_303⟩ rfl rfl rfl (Nat.le_of_ble_eq_true rfl) dX7_readForm_125 ⟨by decide, by decide⟩ ⟨rfl, rfl⟩ h (fun v22 t21 h => ?_)
          refine g_pop X rfl dX7_readForm_128 ?_
          refine g_iinc (lv' := [(2, iv (x14 + 1)), (0, .ref (r 303)), (1, iv y13)]) X dX7_readForm_129 (k := 2) rfl (by decide) rfl ?_
          refine g_goto (tgt := 92) X dX7_readForm_132 (by decide) ?_
          exact g_sub (lv' := [(0, .ref (r 303)), (1, iv y13), (2, iv (x14 + 1))]) [1, 2, 0] rfl (ih (x14 + 1) t21 h)
        · exact g_sub (lv' := [(0, .ref (r 303))]) [0] rfl (hK16 t18 h)
      · refine g_iconst X dX7_readForm_106 ?_
        exact g_zret X h dX7_readForm_107
set_option maxHeartbeats 4000000 in
set_option maxRecDepth 100000 in
theorem b_f_X7_readForm {p : Program} {l : Launch} {e : Env} {s : State} {m : MethodId} {args : Array Value} {below : List Frame} {meth : Method} {c : Code} {E : cE} {A : Nat → Prop} {r : Nat → Nat} {mc ms : Nat} {z : Int × St} {N : Nat} {t : St} (X : gX p s m meth c cX7_readForm 3 (some .boolean) yX7_readForm args E A) (h : f_X7_readForm N t = some z) : gP p l e rm_f_X7_readForm s m args below meth c E A 3 (MQ below ((gqI E (gW E r shH) z) A) args s mc ms A) (gW E r shH) 0 [(0, .ref (r 303))] [] t := by
  unfold f_X7_readForm at h
  refine g_aload_n X dX7_readForm_0 0 rfl ?_
  refine g_getR X fH_X7_19_303 rfl dX7_readForm_1 ?_
  refine g_getR X fH_X7_103_302 rfl dX7_readForm_4 ?_
  refine g_getI X (fH_X7_107_o (o := 0) (by decide)) rfl dX7_readForm_7 h (fun v1 h => ?_)
  refine g_istore_n (lv' := [(1, iv v1), (0, .ref (r 303))]) X dX7_readForm_10 rfl (by decide) rfl ?_
  refine g_aload_n X dX7_readForm_11 1 rfl ?_
  refine g_getR X fH_X7_19_303 rfl dX7_readForm_12 ?_
  refine g_getR X fH_X7_103_302 rfl dX7_readForm_15 ?_
  refine g_callOI (rest := []) X (fun u9 h9 => cp_X6_isFull l E r N 0 (by decide) t u9 h9) yy_X6_isFull yi_X6_isFull wdM_RX7_140 (oX6 (o := 0) (by decide)) rfl rfl rfl (Nat.le_of_ble_eq_true rfl) dX7_readForm_18 ⟨by decide, by decide⟩ ⟨rfl, rfl⟩ h (fun v3 t2 h => ?_)
  refine g_if_eq (tgt := 30) X dX7_readForm_21 (by decide) h (fun h => ?_) (fun h => ?_)
  · refine g_aload_n X dX7_readForm_30 1 rfl ?_
    refine g_callOI (rest := []) X (fun u9 h9 => cp_X7_pass l E r N t2 u9 h9) yy_X7_pass yi_X7_pass wdM_RX7_127 ⟨_, _, oH_303⟩ rfl rfl rfl (Nat.le_of_ble_eq_true rfl) dX7_readForm_31 ⟨by decide, by decide⟩ ⟨rfl, rfl⟩ h (fun v5 t4 h => ?_)
    refine g_if_eq (tgt := 44) X dX7_readForm_34 (by decide) h (fun h => ?_) (fun h => ?_)
    · refine g_iconst X dX7_readForm_44 ?_
      exact g_zret X h dX7_readForm_45
    · refine g_aload_n X dX7_readForm_37 1 rfl ?_
      refine g_callOI (rest := []) X (fun u9 h9 => cp_X7_takeNew l E r N t4 u9 h9) yy_X7_takeNew yi_X7_takeNew wdM_RX7_143 ⟨_, _, oH_303⟩ rfl rfl rfl (Nat.le_of_ble_eq_true rfl) dX7_readForm_38 ⟨by decide, by decide⟩ ⟨rfl, rfl⟩ h (fun v7 t6 h => ?_)
      refine g_if_ne (tgt := 46) X dX7_readForm_41 (by decide) h (fun h => ?_) (fun h => ?_)
      · refine g_aload_n X dX7_readForm_46 1 rfl ?_
        refine g_getR X fH_X7_19_303 rfl dX7_readForm_47 ?_
        refine g_getR X fH_X7_103_302 rfl dX7_readForm_50 ?_
        refine g_aload_n X dX7_readForm_53 1 rfl ?_
        refine g_getR X fH_X7_15_303 rfl dX7_readForm_54 ?_
        refine g_getR X fH_X7_67_301 rfl dX7_readForm_57 ?_
        refine g_aload_n X dX7_readForm_60 1 rfl ?_
        refine g_getI X fH_X7_77_303 rfl dX7_readForm_61 h (fun v8 h => ?_)
        refine g_iconst X dX7_readForm_64 ?_
        refine g_isub X dX7_readForm_65 ?_
        refine g_callOV (rest := []) X (fun u9 h9 => cp_X6_add l E r N 0 (by decide) 335 12294 aH_335 (v8 - 1) t6 u9 h9) yy_X6_add yi_X6_add wdM_RX7_146 (oX6 (o := 0) (by decide)) rfl rfl rfl (Nat.le_of_ble_eq_true rfl) dX7_readForm_66 ⟨by decide, by decide⟩ ⟨rfl, rfl⟩ h (fun t9 h => ?_)
        refine g_aload_n X dX7_readForm_69 1 rfl ?_
        refine g_getR X fH_X7_19_303 rfl dX7_readForm_70 ?_
        refine g_getR X fH_X7_150_302 rfl dX7_readForm_73 ?_
        refine g_iload_n X dX7_readForm_76 0 rfl ?_
        refine g_iconst X dX7_readForm_77 ?_
        refine g_iast X aH_350 dX7_readForm_78 h (fun t10 h => ?_)
        refine g_aload_n X dX7_readForm_79 1 rfl ?_
        refine g_bipush X dX7_readForm_80 (by decide) ?_
        refine g_callOI (rest := []) X (fun u9 h9 => cp_X7_take l E r N 46 t10 u9 h9) yy_X7_take yi_X7_take wdM_RX7_58 ⟨_, _, oH_303⟩ rfl rfl rfl (Nat.le_of_ble_eq_true rfl) dX7_readForm_82 ⟨by decide, by decide⟩ ⟨rfl, rfl⟩ h (fun v12 t11 h => ?_)
        refine g_if_ne (tgt := 90) X dX7_readForm_85 (by decide) h (fun h => ?_) (fun h => ?_)
        · refine g_iconst X dX7_readForm_90 ?_
          refine g_istore_n (lv' := [(2, iv 0), (1, iv v1), (0, .ref (r 303))]) X dX7_readForm_91 rfl (by decide) rfl ?_
          refine g_sub (lv' := [(0, .ref (r 303)), (1, iv v1), (2, iv 0)]) [2, 1, 0] rfl (t_f_X7_readForm_L92 X (fun t23 h => ?_) (fun t26 h => ?_) N 0 t11 h)
          · refine g_aload_n X dX7_readForm_117 0 rfl ?_
            refine g_bipush X dX7_readForm_118 (by decide) ?_
            refine g_callOI (rest := []) X (fun u9 h9 => cp_X7_take l E r N 45 t23 u9 h9) yy_X7_take yi_X7_take wdM_RX7_58 ⟨_, _, oH_303⟩ rfl rfl rfl (Nat.le_of_ble_eq_true rfl) dX7_readForm_120 ⟨by decide, by decide⟩ ⟨rfl, rfl⟩ h (fun v25 t24 h => ?_)
            exact g_zret X h dX7_readForm_123
          · refine g_iconst X dX7_readForm_135 ?_
            exact g_zret X h dX7_readForm_136
        · refine g_iconst X dX7_readForm_88 ?_
          exact g_zret X h dX7_readForm_89
      · refine g_iconst X dX7_readForm_44 ?_
        exact g_zret X h dX7_readForm_45
  · refine g_aload_n X dX7_readForm_24 1 rfl ?_
    refine g_iconst X dX7_readForm_25 ?_
    refine g_callOI (rest := []) X (fun u9 h9 => cp_X7_wrong l E r N 5 t2 u9 h9) yy_X7_wrong yi_X7_wrong wdM_RX7_48 ⟨_, _, oH_303⟩ rfl rfl rfl (Nat.le_of_ble_eq_true rfl) dX7_readForm_26 ⟨by decide, by decide⟩ ⟨rfl, rfl⟩ h (fun v28 t27 h => ?_)
    exact g_zret X h dX7_readForm_29
set_option maxHeartbeats 4000000 in
set_option maxRecDepth 100000 in
theorem cp_X7_readForm (l : Launch) (E : cE) (r : Nat → Nat) (N : Nat) (t : St) (z : Int × St) (h : f_X7_readForm N t = some z) : cM l E yX7_readForm cX7_readForm 3 (some .boolean) rm_f_X7_readForm [.ref (r 303)] (gW E r shH t) (gqI E (gW E r shH) z) := by
  refine g_of (w := gW E r shH) (by decide) (Nat.le_of_ble_eq_true rfl) ?_
  intro p e s m below meth c A X
  exact g_sub (lv' := [(0, .ref (r 303))]) [0] rfl (b_f_X7_readForm X h)
theorem yy_X7_readForm : cY yX7_readForm cX7_readForm 3 (some .boolean) 0 := ⟨wdK_X7_readForm, wdZ_RX7, by decide +kernel⟩
theorem yi_X7_readForm : cYi yX7_readForm := ⟨wdN_X7_readForm, wdS_X7_readForm⟩
theorem dX7_takeKnown_0 : decode cX7_takeKnown 0 = .ok (.aload_n 0, 1) := by decide +kernel
theorem dX7_takeKnown_1 : decode cX7_takeKnown 1 = .ok (.getfield 29, 3) := by decide +kernel
theorem dX7_takeKnown_4 : decode cX7_takeKnown 4 = .ok (.bipush 38, 2) := by decide +kernel
theorem dX7_takeKnown_6 : decode cX7_takeKnown 6 = .ok (.if_icmp .eq 9, 3) := by decide +kernel
theorem dX7_takeKnown_9 : decode cX7_takeKnown 9 = .ok (.aload_n 0, 1) := by decide +kernel
theorem dX7_takeKnown_10 : decode cX7_takeKnown 10 = .ok (.iconst 1, 1) := by decide +kernel
theorem dX7_takeKnown_11 : decode cX7_takeKnown 11 = .ok (.invokevirtual 48, 3) := by decide +kernel
theorem dX7_takeKnown_14 : decode cX7_takeKnown 14 = .ok (.ireturn, 1) := by decide +kernel
theorem dX7_takeKnown_15 : decode cX7_takeKnown 15 = .ok (.aload_n 0, 1) := by decide +kernel
theorem dX7_takeKnown_16 : decode cX7_takeKnown 16 = .ok (.aload_n 1, 1) := by decide +kernel
theorem dX7_takeKnown_17 : decode cX7_takeKnown 17 = .ok (.aload_n 0, 1) := by decide +kernel
theorem dX7_takeKnown_18 : decode cX7_takeKnown 18 = .ok (.getfield 15, 3) := by decide +kernel
theorem dX7_takeKnown_21 : decode cX7_takeKnown 21 = .ok (.getfield 67, 3) := by decide +kernel
theorem dX7_takeKnown_24 : decode cX7_takeKnown 24 = .ok (.aload_n 0, 1) := by decide +kernel
theorem dX7_takeKnown_25 : decode cX7_takeKnown 25 = .ok (.getfield 77, 3) := by decide +kernel
theorem dX7_takeKnown_28 : decode cX7_takeKnown 28 = .ok (.invokevirtual 71, 3) := by decide +kernel
theorem dX7_takeKnown_31 : decode cX7_takeKnown 31 = .ok (.putfield 137, 3) := by decide +kernel
theorem dX7_takeKnown_34 : decode cX7_takeKnown 34 = .ok (.aload_n 0, 1) := by decide +kernel
theorem dX7_takeKnown_35 : decode cX7_takeKnown 35 = .ok (.getfield 137, 3) := by decide +kernel
theorem dX7_takeKnown_38 : decode cX7_takeKnown 38 = .ok (.ifCond .ge 11, 3) := by decide +kernel
theorem dX7_takeKnown_41 : decode cX7_takeKnown 41 = .ok (.aload_n 0, 1) := by decide +kernel
theorem dX7_takeKnown_42 : decode cX7_takeKnown 42 = .ok (.iconst 2, 1) := by decide +kernel
theorem dX7_takeKnown_43 : decode cX7_takeKnown 43 = .ok (.invokevirtual 48, 3) := by decide +kernel
theorem dX7_takeKnown_46 : decode cX7_takeKnown 46 = .ok (.goto 7, 3) := by decide +kernel
theorem dX7_takeKnown_49 : decode cX7_takeKnown 49 = .ok (.aload_n 0, 1) := by decide +kernel
theorem dX7_takeKnown_50 : decode cX7_takeKnown 50 = .ok (.invokevirtual 127, 3) := by decide +kernel
theorem dX7_takeKnown_53 : decode cX7_takeKnown 53 = .ok (.ireturn, 1) := by decide +kernel
abbrev rm_f_X7_takeKnown : Room := { frames := 1, cells := 0, slots := 0, locals := 23 }
def f_X7_takeKnown (N : Nat) (o1 : Nat) (t : St) : Option (Int × St) :=
    lt1 (t.1 303 3) fun v1 =>
    cmpI v1 38 (if v1 = 38 then (lt1 (t.1 303 2) fun v2 =>
    bdI (f_X6_find N o1 335 12294 v2 t) fun v4 t3 =>
    lt1 (pI t3 303 9 v4) fun t5 =>
    lt1 (t5.1 303 9) fun v6 =>
    cmpI v6 0 (if v6 < 0 then (bdI (f_X7_wrong N 2 t5) fun v10 t9 =>
    boI v10 (some (v10, t9)))
    else (bdI (f_X7_pass N t5) fun v8 t7 =>
    boI v8 (some (v8, t7)))))
    else (bdI (f_X7_wrong N 1 t) fun v12 t11 =>
    boI v12 (some (v12, t11))))
set_option maxHeartbeats 4000000 in
set_option maxRecDepth 100000 in
theorem b_f_X7_takeKnown {p : Program} {l : Launch} {e : Env} {s : State} {m : MethodId} {args : Array Value} {below : List Frame} {meth : Method} {c : Code} {E : cE} {A : Nat → Prop} {r : Nat → Nat} {mc ms : Nat} {z : Int × St} {N : Nat} {o1 : Nat} (ho1 : o1 < 3) {t : St} (X : gX p s m meth c cX7_takeKnown 2 (some .boolean) yX7_takeKnown args E A) (h : f_X7_takeKnown N o1 t = some z) : gP p l e rm_f_X7_takeKnown s m args below meth c E A 2 (MQ below ((gqI E (gW E r shH) z) A) args s mc ms A) (gW E r shH) 0 [(0, .ref (r 303)), (1, .ref (r (312 + o1)))] [] t := by
  unfold f_X7_takeKnown at h
  refine g_aload_n X dX7_takeKnown_0 0 rfl ?_
  refine g_getI X fH_X7_29_303 rfl dX7_takeKnown_1 h (fun v1 h => ?_)
  refine g_bipush X dX7_takeKnown_4 (by decide) ?_
  refine g_icmp_eq (tgt := 15) X dX7_takeKnown_6 (by decide) h (fun h => ?_) (fun h => ?_)
  · refine g_aload_n X dX7_takeKnown_15 0 rfl ?_
    refine g_aload_n X dX7_takeKnown_16 1 rfl ?_
    refine g_aload_n X dX7_takeKnown_17 0 rfl ?_
    refine g_getR X fH_X7_15_303 rfl dX7_takeKnown_18 ?_
    refine g_getR X fH_X7_67_301 rfl dX7_takeKnown_21 ?_
    refine g_aload_n X dX7_takeKnown_24 0 rfl ?_
    refine g_getI X fH_X7_77_303 rfl dX7_takeKnown_25 h (fun v2 h => ?_)
    refine g_callOI (rest := [.ref (r 303)]) X (fun u9 h9 => cp_X6_find l E r N o1 ho1 335 12294 aH_335 v2 t u9 h9) yy_X6_find yi_X6_find wdM_RX7_71 (oX6 (o := o1) ho1) rfl rfl rfl (Nat.le_of_ble_eq_true rfl) dX7_takeKnown_28 ⟨by decide, by decide⟩ ⟨rfl, rfl⟩ h (fun v4 t3 h => ?_)
    refine g_putI X fH_X7_137_303w rfl dX7_takeKnown_31 h (fun t5 h => ?_)
    refine g_aload_n X dX7_takeKnown_34 0 rfl ?_
    refine g_getI X fH_X7_137_303 rfl dX7_takeKnown_35 h (fun v6 h => ?_)
    refine g_if_ge (tgt := 49) X dX7_takeKnown_38 (by decide) h (fun h => ?_) (fun h => ?_)
    · refine g_aload_n X dX7_takeKnown_49 0 rfl ?_
      refine g_callOI (rest := []) X (fun u9 h9 => cp_X7_pass l E r N t5 u9 h9) yy_X7_pass yi_X7_pass wdM_RX7_127 ⟨_, _, oH_303⟩ rfl rfl rfl (Nat.le_of_ble_eq_true rfl) dX7_takeKnown_50 ⟨by decide, by decide⟩ ⟨rfl, rfl⟩ h (fun v8 t7 h => ?_)
      exact g_zret X h dX7_takeKnown_53
    · refine g_aload_n X dX7_takeKnown_41 0 rfl ?_
      refine g_iconst X dX7_takeKnown_42 ?_
      refine g_callOI (rest := []) X (fun u9 h9 => cp_X7_wrong l E r N 2 t5 u9 h9) yy_X7_wrong yi_X7_wrong wdM_RX7_48 ⟨_, _, oH_303⟩ rfl rfl rfl (Nat.le_of_ble_eq_true rfl) dX7_takeKnown_43 ⟨by decide, by decide⟩ ⟨rfl, rfl⟩ h (fun v10 t9 h => ?_)
      refine g_goto (tgt := 53) X dX7_takeKnown_46 (by decide) ?_
      exact g_zret X h dX7_takeKnown_53
  · refine g_aload_n X dX7_takeKnown_9 0 rfl ?_
    refine g_iconst X dX7_takeKnown_10 ?_
    refine g_callOI (rest := []) X (fun u9 h9 => cp_X7_wrong l E r N 1 t u9 h9) yy_X7_wrong yi_X7_wrong wdM_RX7_48 ⟨_, _, oH_303⟩ rfl rfl rfl (Nat.le_of_ble_eq_true rfl) dX7_takeKnown_11 ⟨by decide, by decide⟩ ⟨rfl, rfl⟩ h (fun v12 t11 h => ?_)
    exact g_zret X h dX7_takeKnown_14
set_option maxHeartbeats 4000000 in
set_option maxRecDepth 100000 in
theorem cp_X7_takeKnown (l : Launch) (E : cE) (r : Nat → Nat) (N : Nat) (o1 : Nat) (ho1 : o1 < 3) (t : St) (z : Int × St) (h : f_X7_takeKnown N o1 t = some z) : cM l E yX7_takeKnown cX7_takeKnown 2 (some .boolean) rm_f_X7_takeKnown [.ref (r 303), .ref (r (312 + o1))] (gW E r shH t) (gqI E (gW E r shH) z) := by
  refine g_of (w := gW E r shH) (by decide) (Nat.le_of_ble_eq_true rfl) ?_
  intro p e s m below meth c A X
  exact g_sub (lv' := [(0, .ref (r 303)), (1, .ref (r (312 + o1)))]) [0, 1] rfl (b_f_X7_takeKnown ho1 X h)
theorem yy_X7_takeKnown : cY yX7_takeKnown cX7_takeKnown 2 (some .boolean) 1 := ⟨wdK_X7_takeKnown, wdZ_RX7, by decide +kernel⟩
theorem yi_X7_takeKnown : cYi yX7_takeKnown := ⟨wdN_X7_takeKnown, wdS_X7_takeKnown⟩
theorem dX7_takeNumber_0 : decode cX7_takeNumber 0 = .ok (.aload_n 0, 1) := by decide +kernel
theorem dX7_takeNumber_1 : decode cX7_takeNumber 1 = .ok (.iload_n 1, 1) := by decide +kernel
theorem dX7_takeNumber_2 : decode cX7_takeNumber 2 = .ok (.iload_n 2, 1) := by decide +kernel
theorem dX7_takeNumber_3 : decode cX7_takeNumber 3 = .ok (.invokevirtual 133, 3) := by decide +kernel
theorem dX7_takeNumber_6 : decode cX7_takeNumber 6 = .ok (.istore_n 3, 1) := by decide +kernel
theorem dX7_takeNumber_7 : decode cX7_takeNumber 7 = .ok (.iload_n 3, 1) := by decide +kernel
theorem dX7_takeNumber_8 : decode cX7_takeNumber 8 = .ok (.ifCond .ne 10, 3) := by decide +kernel
theorem dX7_takeNumber_11 : decode cX7_takeNumber 11 = .ok (.aload_n 0, 1) := by decide +kernel
theorem dX7_takeNumber_12 : decode cX7_takeNumber 12 = .ok (.invokevirtual 127, 3) := by decide +kernel
theorem dX7_takeNumber_15 : decode cX7_takeNumber 15 = .ok (.goto 8, 3) := by decide +kernel
theorem dX7_takeNumber_18 : decode cX7_takeNumber 18 = .ok (.aload_n 0, 1) := by decide +kernel
theorem dX7_takeNumber_19 : decode cX7_takeNumber 19 = .ok (.iload_n 3, 1) := by decide +kernel
theorem dX7_takeNumber_20 : decode cX7_takeNumber 20 = .ok (.invokevirtual 48, 3) := by decide +kernel
theorem dX7_takeNumber_23 : decode cX7_takeNumber 23 = .ok (.ireturn, 1) := by decide +kernel
abbrev rm_f_X7_takeNumber : Room := { frames := 1, cells := 0, slots := 0, locals := 22 }
def f_X7_takeNumber (N : Nat) (a0 : Int) (a1 : Int) (t : St) : Option (Int × St) :=
    bdI (f_X7_numberFault N a0 a1 t) fun v2 t1 =>
    cmpI v2 0 (if v2 = 0 then (bdI (f_X7_pass N t1) fun v6 t5 =>
    boI v6 (some (v6, t5)))
    else (bdI (f_X7_wrong N v2 t1) fun v4 t3 =>
    boI v4 (some (v4, t3))))
set_option maxHeartbeats 4000000 in
set_option maxRecDepth 100000 in
theorem b_f_X7_takeNumber {p : Program} {l : Launch} {e : Env} {s : State} {m : MethodId} {args : Array Value} {below : List Frame} {meth : Method} {c : Code} {E : cE} {A : Nat → Prop} {r : Nat → Nat} {mc ms : Nat} {z : Int × St} {N : Nat} {a0 : Int} {a1 : Int} {t : St} (X : gX p s m meth c cX7_takeNumber 4 (some .boolean) yX7_takeNumber args E A) (h : f_X7_takeNumber N a0 a1 t = some z) : gP p l e rm_f_X7_takeNumber s m args below meth c E A 4 (MQ below ((gqI E (gW E r shH) z) A) args s mc ms A) (gW E r shH) 0 [(0, .ref (r 303)), (1, iv a0), (2, iv a1)] [] t := by
  unfold f_X7_takeNumber at h
  refine g_aload_n X dX7_takeNumber_0 0 rfl ?_
  refine g_iload_n X dX7_takeNumber_1 1 rfl ?_
  refine g_iload_n X dX7_takeNumber_2 2 rfl ?_
  refine g_callOI (rest := []) X (fun u9 h9 => cp_X7_numberFault l E r N a0 a1 t u9 h9) yy_X7_numberFault yi_X7_numberFault wdM_RX7_133 ⟨_, _, oH_303⟩ rfl rfl rfl (Nat.le_of_ble_eq_true rfl) dX7_takeNumber_3 ⟨by decide, by decide⟩ ⟨rfl, rfl⟩ h (fun v2 t1 h => ?_)
  refine g_istore_n (lv' := [(3, iv v2), (0, .ref (r 303)), (1, iv a0), (2, iv a1)]) X dX7_takeNumber_6 rfl (by decide) rfl ?_
  refine g_iload_n X dX7_takeNumber_7 0 rfl ?_
  refine g_if_ne (tgt := 18) X dX7_takeNumber_8 (by decide) h (fun h => ?_) (fun h => ?_)
  · refine g_aload_n X dX7_takeNumber_18 1 rfl ?_
    refine g_iload_n X dX7_takeNumber_19 0 rfl ?_
    refine g_callOI (rest := []) X (fun u9 h9 => cp_X7_wrong l E r N v2 t1 u9 h9) yy_X7_wrong yi_X7_wrong wdM_RX7_48 ⟨_, _, oH_303⟩ rfl rfl rfl (Nat.le_of_ble_eq_true rfl) dX7_takeNumber_20 ⟨by decide, by decide⟩ ⟨rfl, rfl⟩ h (fun v4 t3 h => ?_)
    exact g_zret X h dX7_takeNumber_23
  · refine g_aload_n X dX7_takeNumber_11 1 rfl ?_
    refine g_callOI (rest := []) X (fun u9 h9 => cp_X7_pass l E r N t1 u9 h9) yy_X7_pass yi_X7_pass wdM_RX7_127 ⟨_, _, oH_303⟩ rfl rfl rfl (Nat.le_of_ble_eq_true rfl) dX7_takeNumber_12 ⟨by decide, by decide⟩ ⟨rfl, rfl⟩ h (fun v6 t5 h => ?_)
    refine g_goto (tgt := 23) X dX7_takeNumber_15 (by decide) ?_
    exact g_zret X h dX7_takeNumber_23
set_option maxHeartbeats 4000000 in
set_option maxRecDepth 100000 in
theorem cp_X7_takeNumber (l : Launch) (E : cE) (r : Nat → Nat) (N : Nat) (a0 : Int) (a1 : Int) (t : St) (z : Int × St) (h : f_X7_takeNumber N a0 a1 t = some z) : cM l E yX7_takeNumber cX7_takeNumber 4 (some .boolean) rm_f_X7_takeNumber [.ref (r 303), iv a0, iv a1] (gW E r shH t) (gqI E (gW E r shH) z) := by
  refine g_of (w := gW E r shH) (by decide) (Nat.le_of_ble_eq_true rfl) ?_
  intro p e s m below meth c A X
  exact g_sub (lv' := [(0, .ref (r 303)), (1, iv a0), (2, iv a1)]) [0, 1, 2] rfl (b_f_X7_takeNumber X h)
theorem yy_X7_takeNumber : cY yX7_takeNumber cX7_takeNumber 4 (some .boolean) 2 := ⟨wdK_X7_takeNumber, wdZ_RX7, by decide +kernel⟩
theorem yi_X7_takeNumber : cYi yX7_takeNumber := ⟨wdN_X7_takeNumber, wdS_X7_takeNumber⟩
theorem dX7_readGoal_0 : decode cX7_readGoal 0 = .ok (.aload_n 0, 1) := by decide +kernel
theorem dX7_readGoal_1 : decode cX7_readGoal 1 = .ok (.bipush (-32), 2) := by decide +kernel
theorem dX7_readGoal_3 : decode cX7_readGoal 3 = .ok (.bipush 32, 2) := by decide +kernel
theorem dX7_readGoal_5 : decode cX7_readGoal 5 = .ok (.invokevirtual 171, 3) := by decide +kernel
theorem dX7_readGoal_8 : decode cX7_readGoal 8 = .ok (.ifCond .ne 5, 3) := by decide +kernel
theorem dX7_readGoal_11 : decode cX7_readGoal 11 = .ok (.iconst 0, 1) := by decide +kernel
theorem dX7_readGoal_12 : decode cX7_readGoal 12 = .ok (.ireturn, 1) := by decide +kernel
theorem dX7_readGoal_13 : decode cX7_readGoal 13 = .ok (.aload_n 0, 1) := by decide +kernel
theorem dX7_readGoal_14 : decode cX7_readGoal 14 = .ok (.getfield 19, 3) := by decide +kernel
theorem dX7_readGoal_17 : decode cX7_readGoal 17 = .ok (.getfield 187, 3) := by decide +kernel
theorem dX7_readGoal_20 : decode cX7_readGoal 20 = .ok (.iload_n 1, 1) := by decide +kernel
theorem dX7_readGoal_21 : decode cX7_readGoal 21 = .ok (.aload_n 0, 1) := by decide +kernel
theorem dX7_readGoal_22 : decode cX7_readGoal 22 = .ok (.getfield 130, 3) := by decide +kernel
theorem dX7_readGoal_25 : decode cX7_readGoal 25 = .ok (.iastore, 1) := by decide +kernel
theorem dX7_readGoal_26 : decode cX7_readGoal 26 = .ok (.aload_n 0, 1) := by decide +kernel
theorem dX7_readGoal_27 : decode cX7_readGoal 27 = .ok (.bipush (-32), 2) := by decide +kernel
theorem dX7_readGoal_29 : decode cX7_readGoal 29 = .ok (.bipush 32, 2) := by decide +kernel
theorem dX7_readGoal_31 : decode cX7_readGoal 31 = .ok (.invokevirtual 171, 3) := by decide +kernel
theorem dX7_readGoal_34 : decode cX7_readGoal 34 = .ok (.ifCond .ne 5, 3) := by decide +kernel
theorem dX7_readGoal_37 : decode cX7_readGoal 37 = .ok (.iconst 0, 1) := by decide +kernel
theorem dX7_readGoal_38 : decode cX7_readGoal 38 = .ok (.ireturn, 1) := by decide +kernel
theorem dX7_readGoal_39 : decode cX7_readGoal 39 = .ok (.aload_n 0, 1) := by decide +kernel
theorem dX7_readGoal_40 : decode cX7_readGoal 40 = .ok (.getfield 19, 3) := by decide +kernel
theorem dX7_readGoal_43 : decode cX7_readGoal 43 = .ok (.getfield 190, 3) := by decide +kernel
theorem dX7_readGoal_46 : decode cX7_readGoal 46 = .ok (.iload_n 1, 1) := by decide +kernel
theorem dX7_readGoal_47 : decode cX7_readGoal 47 = .ok (.aload_n 0, 1) := by decide +kernel
theorem dX7_readGoal_48 : decode cX7_readGoal 48 = .ok (.getfield 130, 3) := by decide +kernel
theorem dX7_readGoal_51 : decode cX7_readGoal 51 = .ok (.iastore, 1) := by decide +kernel
theorem dX7_readGoal_52 : decode cX7_readGoal 52 = .ok (.aload_n 0, 1) := by decide +kernel
theorem dX7_readGoal_53 : decode cX7_readGoal 53 = .ok (.bipush (-8), 2) := by decide +kernel
theorem dX7_readGoal_55 : decode cX7_readGoal 55 = .ok (.bipush 8, 2) := by decide +kernel
theorem dX7_readGoal_57 : decode cX7_readGoal 57 = .ok (.invokevirtual 171, 3) := by decide +kernel
theorem dX7_readGoal_60 : decode cX7_readGoal 60 = .ok (.ifCond .ne 5, 3) := by decide +kernel
theorem dX7_readGoal_63 : decode cX7_readGoal 63 = .ok (.iconst 0, 1) := by decide +kernel
theorem dX7_readGoal_64 : decode cX7_readGoal 64 = .ok (.ireturn, 1) := by decide +kernel
theorem dX7_readGoal_65 : decode cX7_readGoal 65 = .ok (.aload_n 0, 1) := by decide +kernel
theorem dX7_readGoal_66 : decode cX7_readGoal 66 = .ok (.getfield 19, 3) := by decide +kernel
theorem dX7_readGoal_69 : decode cX7_readGoal 69 = .ok (.getfield 193, 3) := by decide +kernel
theorem dX7_readGoal_72 : decode cX7_readGoal 72 = .ok (.iload_n 1, 1) := by decide +kernel
theorem dX7_readGoal_73 : decode cX7_readGoal 73 = .ok (.aload_n 0, 1) := by decide +kernel
theorem dX7_readGoal_74 : decode cX7_readGoal 74 = .ok (.getfield 130, 3) := by decide +kernel
theorem dX7_readGoal_77 : decode cX7_readGoal 77 = .ok (.iastore, 1) := by decide +kernel
theorem dX7_readGoal_78 : decode cX7_readGoal 78 = .ok (.iconst 1, 1) := by decide +kernel
theorem dX7_readGoal_79 : decode cX7_readGoal 79 = .ok (.ireturn, 1) := by decide +kernel
abbrev rm_f_X7_readGoal : Room := { frames := 2, cells := 0, slots := 0, locals := 45 }
def f_X7_readGoal (N : Nat) (a0 : Int) (t : St) : Option (Int × St) :=
    bdI (f_X7_takeNumber N (-32) 32 t) fun v2 t1 =>
    cmpI v2 0 (if v2 = 0 then (boI 0 (some (0, t1)))
    else (lt1 (t1.1 303 8) fun v3 =>
    ixI a0 800 (lt1 (pI t1 357 a0.toNat v3) fun t4 =>
    bdI (f_X7_takeNumber N (-32) 32 t4) fun v6 t5 =>
    cmpI v6 0 (if v6 = 0 then (boI 0 (some (0, t5)))
    else (lt1 (t5.1 303 8) fun v7 =>
    ixI a0 800 (lt1 (pI t5 358 a0.toNat v7) fun t8 =>
    bdI (f_X7_takeNumber N (-8) 8 t8) fun v10 t9 =>
    cmpI v10 0 (if v10 = 0 then (boI 0 (some (0, t9)))
    else (lt1 (t9.1 303 8) fun v11 =>
    ixI a0 800 (lt1 (pI t9 359 a0.toNat v11) fun t12 =>
    boI 1 (some (1, t12)))))))))))
set_option maxHeartbeats 4000000 in
set_option maxRecDepth 100000 in
theorem b_f_X7_readGoal {p : Program} {l : Launch} {e : Env} {s : State} {m : MethodId} {args : Array Value} {below : List Frame} {meth : Method} {c : Code} {E : cE} {A : Nat → Prop} {r : Nat → Nat} {mc ms : Nat} {z : Int × St} {N : Nat} {a0 : Int} {t : St} (X : gX p s m meth c cX7_readGoal 2 (some .boolean) yX7_readGoal args E A) (h : f_X7_readGoal N a0 t = some z) : gP p l e rm_f_X7_readGoal s m args below meth c E A 2 (MQ below ((gqI E (gW E r shH) z) A) args s mc ms A) (gW E r shH) 0 [(0, .ref (r 303)), (1, iv a0)] [] t := by
  unfold f_X7_readGoal at h
  refine g_aload_n X dX7_readGoal_0 0 rfl ?_
  refine g_bipush X dX7_readGoal_1 (by decide) ?_
  refine g_bipush X dX7_readGoal_3 (by decide) ?_
  refine g_callOI (rest := []) X (fun u9 h9 => cp_X7_takeNumber l E r N (-32) 32 t u9 h9) yy_X7_takeNumber yi_X7_takeNumber wdM_RX7_171 ⟨_, _, oH_303⟩ rfl rfl rfl (Nat.le_of_ble_eq_true rfl) dX7_readGoal_5 ⟨by decide, by decide⟩ ⟨rfl, rfl⟩ h (fun v2 t1 h => ?_)
  refine g_if_ne (tgt := 13) X dX7_readGoal_8 (by decide) h (fun h => ?_) (fun h => ?_)
  · refine g_aload_n X dX7_readGoal_13 0 rfl ?_
    refine g_getR X fH_X7_19_303 rfl dX7_readGoal_14 ?_
    refine g_getR X fH_X7_187_302 rfl dX7_readGoal_17 ?_
    refine g_iload_n X dX7_readGoal_20 1 rfl ?_
    refine g_aload_n X dX7_readGoal_21 0 rfl ?_
    refine g_getI X fH_X7_130_303 rfl dX7_readGoal_22 h (fun v3 h => ?_)
    refine g_iast X aH_357 dX7_readGoal_25 h (fun t4 h => ?_)
    refine g_aload_n X dX7_readGoal_26 0 rfl ?_
    refine g_bipush X dX7_readGoal_27 (by decide) ?_
    refine g_bipush X dX7_readGoal_29 (by decide) ?_
    refine g_callOI (rest := []) X (fun u9 h9 => cp_X7_takeNumber l E r N (-32) 32 t4 u9 h9) yy_X7_takeNumber yi_X7_takeNumber wdM_RX7_171 ⟨_, _, oH_303⟩ rfl rfl rfl (Nat.le_of_ble_eq_true rfl) dX7_readGoal_31 ⟨by decide, by decide⟩ ⟨rfl, rfl⟩ h (fun v6 t5 h => ?_)
    refine g_if_ne (tgt := 39) X dX7_readGoal_34 (by decide) h (fun h => ?_) (fun h => ?_)
    · refine g_aload_n X dX7_readGoal_39 0 rfl ?_
      refine g_getR X fH_X7_19_303 rfl dX7_readGoal_40 ?_
      refine g_getR X fH_X7_190_302 rfl dX7_readGoal_43 ?_
      refine g_iload_n X dX7_readGoal_46 1 rfl ?_
      refine g_aload_n X dX7_readGoal_47 0 rfl ?_
      refine g_getI X fH_X7_130_303 rfl dX7_readGoal_48 h (fun v7 h => ?_)
      refine g_iast X aH_358 dX7_readGoal_51 h (fun t8 h => ?_)
      refine g_aload_n X dX7_readGoal_52 0 rfl ?_
      refine g_bipush X dX7_readGoal_53 (by decide) ?_
      refine g_bipush X dX7_readGoal_55 (by decide) ?_
      refine g_callOI (rest := []) X (fun u9 h9 => cp_X7_takeNumber l E r N (-8) 8 t8 u9 h9) yy_X7_takeNumber yi_X7_takeNumber wdM_RX7_171 ⟨_, _, oH_303⟩ rfl rfl rfl (Nat.le_of_ble_eq_true rfl) dX7_readGoal_57 ⟨by decide, by decide⟩ ⟨rfl, rfl⟩ h (fun v10 t9 h => ?_)
      refine g_if_ne (tgt := 65) X dX7_readGoal_60 (by decide) h (fun h => ?_) (fun h => ?_)
      · refine g_aload_n X dX7_readGoal_65 0 rfl ?_
        refine g_getR X fH_X7_19_303 rfl dX7_readGoal_66 ?_
        refine g_getR X fH_X7_193_302 rfl dX7_readGoal_69 ?_
        refine g_iload_n X dX7_readGoal_72 1 rfl ?_
        refine g_aload_n X dX7_readGoal_73 0 rfl ?_
        refine g_getI X fH_X7_130_303 rfl dX7_readGoal_74 h (fun v11 h => ?_)
        refine g_iast X aH_359 dX7_readGoal_77 h (fun t12 h => ?_)
        refine g_iconst X dX7_readGoal_78 ?_
        exact g_zret X h dX7_readGoal_79
      · refine g_iconst X dX7_readGoal_63 ?_
        exact g_zret X h dX7_readGoal_64
    · refine g_iconst X dX7_readGoal_37 ?_
      exact g_zret X h dX7_readGoal_38
  · refine g_iconst X dX7_readGoal_11 ?_
    exact g_zret X h dX7_readGoal_12
set_option maxHeartbeats 4000000 in
set_option maxRecDepth 100000 in
theorem cp_X7_readGoal (l : Launch) (E : cE) (r : Nat → Nat) (N : Nat) (a0 : Int) (t : St) (z : Int × St) (h : f_X7_readGoal N a0 t = some z) : cM l E yX7_readGoal cX7_readGoal 2 (some .boolean) rm_f_X7_readGoal [.ref (r 303), iv a0] (gW E r shH t) (gqI E (gW E r shH) z) := by
  refine g_of (w := gW E r shH) (by decide) (Nat.le_of_ble_eq_true rfl) ?_
  intro p e s m below meth c A X
  exact g_sub (lv' := [(0, .ref (r 303)), (1, iv a0)]) [0, 1] rfl (b_f_X7_readGoal X h)
theorem yy_X7_readGoal : cY yX7_readGoal cX7_readGoal 2 (some .boolean) 1 := ⟨wdK_X7_readGoal, wdZ_RX7, by decide +kernel⟩
theorem yi_X7_readGoal : cYi yX7_readGoal := ⟨wdN_X7_readGoal, wdS_X7_readGoal⟩
theorem dX7_readGoals_0 : decode cX7_readGoals 0 = .ok (.iconst 0, 1) := by decide +kernel
theorem dX7_readGoals_1 : decode cX7_readGoals 1 = .ok (.istore_n 3, 1) := by decide +kernel
theorem dX7_readGoals_2 : decode cX7_readGoals 2 = .ok (.iload_n 3, 1) := by decide +kernel
theorem dX7_readGoals_3 : decode cX7_readGoals 3 = .ok (.iload_n 2, 1) := by decide +kernel
theorem dX7_readGoals_4 : decode cX7_readGoals 4 = .ok (.if_icmp .ge 55, 3) := by decide +kernel
theorem dX7_readGoals_7 : decode cX7_readGoals 7 = .ok (.iload_n 3, 1) := by decide +kernel
theorem dX7_readGoals_8 : decode cX7_readGoals 8 = .ok (.ifCond .le 30, 3) := by decide +kernel
theorem dX7_readGoals_11 : decode cX7_readGoals 11 = .ok (.aload_n 0, 1) := by decide +kernel
theorem dX7_readGoals_12 : decode cX7_readGoals 12 = .ok (.getfield 29, 3) := by decide +kernel
theorem dX7_readGoals_15 : decode cX7_readGoals 15 = .ok (.bipush 45, 2) := by decide +kernel
theorem dX7_readGoals_17 : decode cX7_readGoals 17 = .ok (.if_icmp .ne 10, 3) := by decide +kernel
theorem dX7_readGoals_20 : decode cX7_readGoals 20 = .ok (.aload_n 0, 1) := by decide +kernel
theorem dX7_readGoals_21 : decode cX7_readGoals 21 = .ok (.bipush 6, 2) := by decide +kernel
theorem dX7_readGoals_23 : decode cX7_readGoals 23 = .ok (.invokevirtual 48, 3) := by decide +kernel
theorem dX7_readGoals_26 : decode cX7_readGoals 26 = .ok (.ireturn, 1) := by decide +kernel
theorem dX7_readGoals_27 : decode cX7_readGoals 27 = .ok (.aload_n 0, 1) := by decide +kernel
theorem dX7_readGoals_28 : decode cX7_readGoals 28 = .ok (.bipush 44, 2) := by decide +kernel
theorem dX7_readGoals_30 : decode cX7_readGoals 30 = .ok (.invokevirtual 58, 3) := by decide +kernel
theorem dX7_readGoals_33 : decode cX7_readGoals 33 = .ok (.ifCond .ne 5, 3) := by decide +kernel
theorem dX7_readGoals_36 : decode cX7_readGoals 36 = .ok (.iconst 0, 1) := by decide +kernel
theorem dX7_readGoals_37 : decode cX7_readGoals 37 = .ok (.ireturn, 1) := by decide +kernel
theorem dX7_readGoals_38 : decode cX7_readGoals 38 = .ok (.aload_n 0, 1) := by decide +kernel
theorem dX7_readGoals_39 : decode cX7_readGoals 39 = .ok (.iload_n 1, 1) := by decide +kernel
theorem dX7_readGoals_40 : decode cX7_readGoals 40 = .ok (.bipush 8, 2) := by decide +kernel
theorem dX7_readGoals_42 : decode cX7_readGoals 42 = .ok (.imul, 1) := by decide +kernel
theorem dX7_readGoals_43 : decode cX7_readGoals 43 = .ok (.iload_n 3, 1) := by decide +kernel
theorem dX7_readGoals_44 : decode cX7_readGoals 44 = .ok (.iadd, 1) := by decide +kernel
theorem dX7_readGoals_45 : decode cX7_readGoals 45 = .ok (.invokevirtual 184, 3) := by decide +kernel
theorem dX7_readGoals_48 : decode cX7_readGoals 48 = .ok (.ifCond .ne 5, 3) := by decide +kernel
theorem dX7_readGoals_51 : decode cX7_readGoals 51 = .ok (.iconst 0, 1) := by decide +kernel
theorem dX7_readGoals_52 : decode cX7_readGoals 52 = .ok (.ireturn, 1) := by decide +kernel
theorem dX7_readGoals_53 : decode cX7_readGoals 53 = .ok (.iinc 3 1, 3) := by decide +kernel
theorem dX7_readGoals_56 : decode cX7_readGoals 56 = .ok (.goto (-54), 3) := by decide +kernel
theorem dX7_readGoals_59 : decode cX7_readGoals 59 = .ok (.aload_n 0, 1) := by decide +kernel
theorem dX7_readGoals_60 : decode cX7_readGoals 60 = .ok (.getfield 29, 3) := by decide +kernel
theorem dX7_readGoals_63 : decode cX7_readGoals 63 = .ok (.bipush 44, 2) := by decide +kernel
theorem dX7_readGoals_65 : decode cX7_readGoals 65 = .ok (.if_icmp .ne 12, 3) := by decide +kernel
theorem dX7_readGoals_68 : decode cX7_readGoals 68 = .ok (.aload_n 0, 1) := by decide +kernel
theorem dX7_readGoals_69 : decode cX7_readGoals 69 = .ok (.bipush 6, 2) := by decide +kernel
theorem dX7_readGoals_71 : decode cX7_readGoals 71 = .ok (.invokevirtual 48, 3) := by decide +kernel
theorem dX7_readGoals_74 : decode cX7_readGoals 74 = .ok (.goto 9, 3) := by decide +kernel
theorem dX7_readGoals_77 : decode cX7_readGoals 77 = .ok (.aload_n 0, 1) := by decide +kernel
theorem dX7_readGoals_78 : decode cX7_readGoals 78 = .ok (.bipush 45, 2) := by decide +kernel
theorem dX7_readGoals_80 : decode cX7_readGoals 80 = .ok (.invokevirtual 58, 3) := by decide +kernel
theorem dX7_readGoals_83 : decode cX7_readGoals 83 = .ok (.ireturn, 1) := by decide +kernel
abbrev rm_f_X7_readGoals : Room := { frames := 3, cells := 0, slots := 0, locals := 66 }
def f_X7_readGoals_L2 (N : Nat) (K5 : (St → Option (Int × St))) (K6 : (St → Option (Int × St))) (y1 : Int) (y2 : Int) : Nat → Int → St → Option (Int × St)
  | 0, _, _ => none
  | n9 + 1, x3, t4 =>
    cmpI x3 y2 (if x3 < y2 then (jn1 (fun (t7 : St) => bdI (f_X7_readGoal N ((y1 * 8) + x3) t7) fun v10 t9 =>
    cmpI v10 0 (if v10 = 0 then (boI 0 (some (0, t9)))
    else (f_X7_readGoals_L2 N K5 K6 y1 y2 n9 (x3 + 1) t9))) fun J8 =>
    cmpI x3 0 (if 0 < x3 then (lt1 (t4.1 303 3) fun v11 =>
    cmpI v11 45 (if v11 = 45 then (K5 t4)
    else (bdI (f_X7_take N 44 t4) fun v13 t12 =>
    cmpI v13 0 (if v13 = 0 then (boI 0 (some (0, t12)))
    else (J8 t12)))))
    else (J8 t4)))
    else (K6 t4))
def f_X7_readGoals (N : Nat) (a0 : Int) (a1 : Int) (t : St) : Option (Int × St) :=
    f_X7_readGoals_L2 N (fun (t14 : St) => bdI (f_X7_wrong N 6 t14) fun v16 t15 =>
    boI v16 (some (v16, t15))) (fun (t17 : St) => lt1 (t17.1 303 3) fun v18 =>
    cmpI v18 44 (if v18 = 44 then (bdI (f_X7_wrong N 6 t17) fun v22 t21 =>
    boI v22 (some (v22, t21)))
    else (bdI (f_X7_take N 45 t17) fun v20 t19 =>
    boI v20 (some (v20, t19))))) a0 a1 N 0 t
set_option maxHeartbeats 4000000 in
set_option maxRecDepth 100000 in
theorem t_f_X7_readGoals_L2 {p : Program} {l : Launch} {e : Env} {s : State} {m : MethodId} {args : Array Value} {below : List Frame} {meth : Method} {c : Code} {E : cE} {A : Nat → Prop} {r : Nat → Nat} {mc ms : Nat} {z : Int × St} {N : Nat} {K5 : (St → Option (Int × St))} {K6 : (St → Option (Int × St))} {y1 : Int} {y2 : Int} (X : gX p s m meth c cX7_readGoals 4 (some .boolean) yX7_readGoals args E A) (hK5 : ∀ (t9 : St), K5 t9 = some z → gP p l e rm_f_X7_readGoals s m args below meth c E A 4 (MQ below ((gqI E (gW E r shH) z) A) args s mc ms A) (gW E r shH) 20 [(0, .ref (r 303))] [] t9) (hK6 : ∀ (t9 : St), K6 t9 = some z → gP p l e rm_f_X7_readGoals s m args below meth c E A 4 (MQ below ((gqI E (gW E r shH) z) A) args s mc ms A) (gW E r shH) 59 [(0, .ref (r 303))] [] t9) : ∀ (n9 : Nat) (x3 : Int) (t4 : St), f_X7_readGoals_L2 N K5 K6 y1 y2 n9 x3 t4 = some z → gP p l e rm_f_X7_readGoals s m args below meth c E A 4 (MQ below ((gqI E (gW E r shH) z) A) args s mc ms A) (gW E r shH) 2 [(0, .ref (r 303)), (1, iv y1), (2, iv y2), (3, iv x3)] [] t4 := by
  intro n9
  induction n9 with
  | zero => intro x3 t4 h; cases h
  | succ n9 ih =>
    intro x3 t4 h
    unfold f_X7_readGoals_L2 at h
    refine g_iload_n X dX7_readGoals_2 3 rfl ?_
    refine g_iload_n X dX7_readGoals_3 2 rfl ?_
    refine g_icmp_ge (tgt := 59) X dX7_readGoals_4 (by decide) h (fun h => ?_) (fun h => ?_)
    · exact g_sub (lv' := [(0, .ref (r 303))]) [0] rfl (hK6 t4 h)
    · refine g_iload_n X dX7_readGoals_7 3 rfl ?_
      refine g_join (J := fun jj => ∀ (t7 : St), jj  t7 = some z → gP p l e rm_f_X7_readGoals s m args below meth c E A 4 (MQ below ((gqI E (gW E r shH) z) A) args s mc ms A) (gW E r shH) 38 [(0, .ref (r 303)), (1, iv y1), (2, iv y2), (3, iv x3)] [] t7) h (fun  t7 h => ?_) (fun J8 hJ8 h => ?_)
      · refine g_aload_n X dX7_readGoals_38 0 rfl ?_
        refine g_iload_n X dX7_readGoals_39 1 rfl ?_
        refine g_bipush X dX7_readGoals_40 (by decide) ?_
        refine g_imul X dX7_readGoals_42 ?_
        refine g_iload_n X dX7_readGoals_43 3 rfl ?_
        refine g_iadd X dX7_readGoals_44 ?_
        refine g_callOI (rest := []) X (fun u9 h9 => cp_X7_readGoal l E r N ((y1 * 8) + x3) t7 u9 h9) yy_X7_readGoal yi_X7_readGoal wdM_RX7_184 ⟨_, _, oH_303⟩ rfl rfl rfl (Nat.le_of_ble_eq_true rfl) dX7_readGoals_45 ⟨by decide, by decide⟩ ⟨rfl, rfl⟩ h (fun v10 t9 h => ?_)
        refine g_if_ne (tgt := 53) X dX7_readGoals_48 (by decide) h (fun h => ?_) (fun h => ?_)
        · refine g_iinc (lv' := [(3, iv (x3 + 1)), (0, .ref (r 303)), (1, iv y1), (2, iv y2)]) X dX7_readGoals_53 (k := 3) rfl (by decide) rfl ?_
          refine g_goto (tgt := 2) X dX7_readGoals_56 (by decide) ?_
          exact g_sub (lv' := [(0, .ref (r 303)), (1, iv y1), (2, iv y2), (3, iv (x3 + 1))]) [1, 2, 3, 0] rfl (ih (x3 + 1) t9 h)
        · refine g_iconst X dX7_readGoals_51 ?_
          exact g_zret X h dX7_readGoals_52
      refine g_if_le (tgt := 38) X dX7_readGoals_8 (by decide) h (fun h => ?_) (fun h => ?_)
      · exact g_sub (lv' := [(0, .ref (r 303)), (1, iv y1), (2, iv y2), (3, iv x3)]) [0, 1, 2, 3] rfl (hJ8 t4 h)
      · refine g_aload_n X dX7_readGoals_11 0 rfl ?_
        refine g_getI X fH_X7_29_303 rfl dX7_readGoals_12 h (fun v11 h => ?_)
        refine g_bipush X dX7_readGoals_15 (by decide) ?_
        refine g_icmp_ne (tgt := 27) X dX7_readGoals_17 (by decide) h (fun h => ?_) (fun h => ?_)
        · refine g_aload_n X dX7_readGoals_27 0 rfl ?_
          refine g_bipush X dX7_readGoals_28 (by decide) ?_
          refine g_callOI (rest := []) X (fun u9 h9 => cp_X7_take l E r N 44 t4 u9 h9) yy_X7_take yi_X7_take wdM_RX7_58 ⟨_, _, oH_303⟩ rfl rfl rfl (Nat.le_of_ble_eq_true rfl) dX7_readGoals_30 ⟨by decide, by decide⟩ ⟨rfl, rfl⟩ h (fun v13 t12 h => ?_)
          refine g_if_ne (tgt := 38) X dX7_readGoals_33 (by decide) h (fun h => ?_) (fun h => ?_)
          · exact g_sub (lv' := [(0, .ref (r 303)), (1, iv y1), (2, iv y2), (3, iv x3)]) [0, 1, 2, 3] rfl (hJ8 t12 h)
          · refine g_iconst X dX7_readGoals_36 ?_
            exact g_zret X h dX7_readGoals_37
        · exact g_sub (lv' := [(0, .ref (r 303))]) [0] rfl (hK5 t4 h)
set_option maxHeartbeats 4000000 in
set_option maxRecDepth 100000 in
theorem b_f_X7_readGoals {p : Program} {l : Launch} {e : Env} {s : State} {m : MethodId} {args : Array Value} {below : List Frame} {meth : Method} {c : Code} {E : cE} {A : Nat → Prop} {r : Nat → Nat} {mc ms : Nat} {z : Int × St} {N : Nat} {a0 : Int} {a1 : Int} {t : St} (X : gX p s m meth c cX7_readGoals 4 (some .boolean) yX7_readGoals args E A) (h : f_X7_readGoals N a0 a1 t = some z) : gP p l e rm_f_X7_readGoals s m args below meth c E A 4 (MQ below ((gqI E (gW E r shH) z) A) args s mc ms A) (gW E r shH) 0 [(0, .ref (r 303)), (1, iv a0), (2, iv a1)] [] t := by
  unfold f_X7_readGoals at h
  refine g_iconst X dX7_readGoals_0 ?_
  refine g_istore_n (lv' := [(3, iv 0), (0, .ref (r 303)), (1, iv a0), (2, iv a1)]) X dX7_readGoals_1 rfl (by decide) rfl ?_
  refine g_sub (lv' := [(0, .ref (r 303)), (1, iv a0), (2, iv a1), (3, iv 0)]) [1, 2, 3, 0] rfl (t_f_X7_readGoals_L2 X (fun t14 h => ?_) (fun t17 h => ?_) N 0 t h)
  · refine g_aload_n X dX7_readGoals_20 0 rfl ?_
    refine g_bipush X dX7_readGoals_21 (by decide) ?_
    refine g_callOI (rest := []) X (fun u9 h9 => cp_X7_wrong l E r N 6 t14 u9 h9) yy_X7_wrong yi_X7_wrong wdM_RX7_48 ⟨_, _, oH_303⟩ rfl rfl rfl (Nat.le_of_ble_eq_true rfl) dX7_readGoals_23 ⟨by decide, by decide⟩ ⟨rfl, rfl⟩ h (fun v16 t15 h => ?_)
    exact g_zret X h dX7_readGoals_26
  · refine g_aload_n X dX7_readGoals_59 0 rfl ?_
    refine g_getI X fH_X7_29_303 rfl dX7_readGoals_60 h (fun v18 h => ?_)
    refine g_bipush X dX7_readGoals_63 (by decide) ?_
    refine g_icmp_ne (tgt := 77) X dX7_readGoals_65 (by decide) h (fun h => ?_) (fun h => ?_)
    · refine g_aload_n X dX7_readGoals_77 0 rfl ?_
      refine g_bipush X dX7_readGoals_78 (by decide) ?_
      refine g_callOI (rest := []) X (fun u9 h9 => cp_X7_take l E r N 45 t17 u9 h9) yy_X7_take yi_X7_take wdM_RX7_58 ⟨_, _, oH_303⟩ rfl rfl rfl (Nat.le_of_ble_eq_true rfl) dX7_readGoals_80 ⟨by decide, by decide⟩ ⟨rfl, rfl⟩ h (fun v20 t19 h => ?_)
      exact g_zret X h dX7_readGoals_83
    · refine g_aload_n X dX7_readGoals_68 0 rfl ?_
      refine g_bipush X dX7_readGoals_69 (by decide) ?_
      refine g_callOI (rest := []) X (fun u9 h9 => cp_X7_wrong l E r N 6 t17 u9 h9) yy_X7_wrong yi_X7_wrong wdM_RX7_48 ⟨_, _, oH_303⟩ rfl rfl rfl (Nat.le_of_ble_eq_true rfl) dX7_readGoals_71 ⟨by decide, by decide⟩ ⟨rfl, rfl⟩ h (fun v22 t21 h => ?_)
      refine g_goto (tgt := 83) X dX7_readGoals_74 (by decide) ?_
      exact g_zret X h dX7_readGoals_83
set_option maxHeartbeats 4000000 in
set_option maxRecDepth 100000 in
theorem cp_X7_readGoals (l : Launch) (E : cE) (r : Nat → Nat) (N : Nat) (a0 : Int) (a1 : Int) (t : St) (z : Int × St) (h : f_X7_readGoals N a0 a1 t = some z) : cM l E yX7_readGoals cX7_readGoals 4 (some .boolean) rm_f_X7_readGoals [.ref (r 303), iv a0, iv a1] (gW E r shH t) (gqI E (gW E r shH) z) := by
  refine g_of (w := gW E r shH) (by decide) (Nat.le_of_ble_eq_true rfl) ?_
  intro p e s m below meth c A X
  exact g_sub (lv' := [(0, .ref (r 303)), (1, iv a0), (2, iv a1)]) [0, 1, 2] rfl (b_f_X7_readGoals X h)
theorem yy_X7_readGoals : cY yX7_readGoals cX7_readGoals 4 (some .boolean) 2 := ⟨wdK_X7_readGoals, wdZ_RX7, by decide +kernel⟩
theorem yi_X7_readGoals : cYi yX7_readGoals := ⟨wdN_X7_readGoals, wdS_X7_readGoals⟩
theorem dX7_readFigure_0 : decode cX7_readFigure 0 = .ok (.aload_n 0, 1) := by decide +kernel
theorem dX7_readFigure_1 : decode cX7_readFigure 1 = .ok (.getfield 19, 3) := by decide +kernel
theorem dX7_readFigure_4 : decode cX7_readFigure 4 = .ok (.getfield 110, 3) := by decide +kernel
theorem dX7_readFigure_7 : decode cX7_readFigure 7 = .ok (.getfield 107, 3) := by decide +kernel
theorem dX7_readFigure_10 : decode cX7_readFigure 10 = .ok (.istore_n 1, 1) := by decide +kernel
theorem dX7_readFigure_11 : decode cX7_readFigure 11 = .ok (.aload_n 0, 1) := by decide +kernel
theorem dX7_readFigure_12 : decode cX7_readFigure 12 = .ok (.getfield 19, 3) := by decide +kernel
theorem dX7_readFigure_15 : decode cX7_readFigure 15 = .ok (.getfield 110, 3) := by decide +kernel
theorem dX7_readFigure_18 : decode cX7_readFigure 18 = .ok (.invokevirtual 140, 3) := by decide +kernel
theorem dX7_readFigure_21 : decode cX7_readFigure 21 = .ok (.ifCond .eq 9, 3) := by decide +kernel
theorem dX7_readFigure_24 : decode cX7_readFigure 24 = .ok (.aload_n 0, 1) := by decide +kernel
theorem dX7_readFigure_25 : decode cX7_readFigure 25 = .ok (.iconst 5, 1) := by decide +kernel
theorem dX7_readFigure_26 : decode cX7_readFigure 26 = .ok (.invokevirtual 48, 3) := by decide +kernel
theorem dX7_readFigure_29 : decode cX7_readFigure 29 = .ok (.ireturn, 1) := by decide +kernel
theorem dX7_readFigure_30 : decode cX7_readFigure 30 = .ok (.aload_n 0, 1) := by decide +kernel
theorem dX7_readFigure_31 : decode cX7_readFigure 31 = .ok (.invokevirtual 127, 3) := by decide +kernel
theorem dX7_readFigure_34 : decode cX7_readFigure 34 = .ok (.ifCond .eq 10, 3) := by decide +kernel
theorem dX7_readFigure_37 : decode cX7_readFigure 37 = .ok (.aload_n 0, 1) := by decide +kernel
theorem dX7_readFigure_38 : decode cX7_readFigure 38 = .ok (.invokevirtual 143, 3) := by decide +kernel
theorem dX7_readFigure_41 : decode cX7_readFigure 41 = .ok (.ifCond .ne 5, 3) := by decide +kernel
theorem dX7_readFigure_44 : decode cX7_readFigure 44 = .ok (.iconst 0, 1) := by decide +kernel
theorem dX7_readFigure_45 : decode cX7_readFigure 45 = .ok (.ireturn, 1) := by decide +kernel
theorem dX7_readFigure_46 : decode cX7_readFigure 46 = .ok (.aload_n 0, 1) := by decide +kernel
theorem dX7_readFigure_47 : decode cX7_readFigure 47 = .ok (.getfield 19, 3) := by decide +kernel
theorem dX7_readFigure_50 : decode cX7_readFigure 50 = .ok (.getfield 110, 3) := by decide +kernel
theorem dX7_readFigure_53 : decode cX7_readFigure 53 = .ok (.aload_n 0, 1) := by decide +kernel
theorem dX7_readFigure_54 : decode cX7_readFigure 54 = .ok (.getfield 15, 3) := by decide +kernel
theorem dX7_readFigure_57 : decode cX7_readFigure 57 = .ok (.getfield 67, 3) := by decide +kernel
theorem dX7_readFigure_60 : decode cX7_readFigure 60 = .ok (.aload_n 0, 1) := by decide +kernel
theorem dX7_readFigure_61 : decode cX7_readFigure 61 = .ok (.getfield 77, 3) := by decide +kernel
theorem dX7_readFigure_64 : decode cX7_readFigure 64 = .ok (.iconst 1, 1) := by decide +kernel
theorem dX7_readFigure_65 : decode cX7_readFigure 65 = .ok (.isub, 1) := by decide +kernel
theorem dX7_readFigure_66 : decode cX7_readFigure 66 = .ok (.invokevirtual 146, 3) := by decide +kernel
theorem dX7_readFigure_69 : decode cX7_readFigure 69 = .ok (.aload_n 0, 1) := by decide +kernel
theorem dX7_readFigure_70 : decode cX7_readFigure 70 = .ok (.iconst 4, 1) := by decide +kernel
theorem dX7_readFigure_71 : decode cX7_readFigure 71 = .ok (.invokevirtual 58, 3) := by decide +kernel
theorem dX7_readFigure_74 : decode cX7_readFigure 74 = .ok (.ifCond .eq 17, 3) := by decide +kernel
theorem dX7_readFigure_77 : decode cX7_readFigure 77 = .ok (.aload_n 0, 1) := by decide +kernel
theorem dX7_readFigure_78 : decode cX7_readFigure 78 = .ok (.aload_n 0, 1) := by decide +kernel
theorem dX7_readFigure_79 : decode cX7_readFigure 79 = .ok (.getfield 19, 3) := by decide +kernel
theorem dX7_readFigure_82 : decode cX7_readFigure 82 = .ok (.getfield 103, 3) := by decide +kernel
theorem dX7_readFigure_85 : decode cX7_readFigure 85 = .ok (.invokevirtual 164, 3) := by decide +kernel
theorem dX7_readFigure_88 : decode cX7_readFigure 88 = .ok (.ifCond .ne 5, 3) := by decide +kernel
theorem dX7_readFigure_91 : decode cX7_readFigure 91 = .ok (.iconst 0, 1) := by decide +kernel
theorem dX7_readFigure_92 : decode cX7_readFigure 92 = .ok (.ireturn, 1) := by decide +kernel
theorem dX7_readFigure_93 : decode cX7_readFigure 93 = .ok (.aload_n 0, 1) := by decide +kernel
theorem dX7_readFigure_94 : decode cX7_readFigure 94 = .ok (.getfield 137, 3) := by decide +kernel
theorem dX7_readFigure_97 : decode cX7_readFigure 97 = .ok (.istore_n 2, 1) := by decide +kernel
theorem dX7_readFigure_98 : decode cX7_readFigure 98 = .ok (.aload_n 0, 1) := by decide +kernel
theorem dX7_readFigure_99 : decode cX7_readFigure 99 = .ok (.getfield 19, 3) := by decide +kernel
theorem dX7_readFigure_102 : decode cX7_readFigure 102 = .ok (.getfield 168, 3) := by decide +kernel
theorem dX7_readFigure_105 : decode cX7_readFigure 105 = .ok (.iload_n 1, 1) := by decide +kernel
theorem dX7_readFigure_106 : decode cX7_readFigure 106 = .ok (.iload_n 2, 1) := by decide +kernel
theorem dX7_readFigure_107 : decode cX7_readFigure 107 = .ok (.iastore, 1) := by decide +kernel
theorem dX7_readFigure_108 : decode cX7_readFigure 108 = .ok (.aload_n 0, 1) := by decide +kernel
theorem dX7_readFigure_109 : decode cX7_readFigure 109 = .ok (.iconst 5, 1) := by decide +kernel
theorem dX7_readFigure_110 : decode cX7_readFigure 110 = .ok (.invokevirtual 58, 3) := by decide +kernel
theorem dX7_readFigure_113 : decode cX7_readFigure 113 = .ok (.ifCond .eq 13, 3) := by decide +kernel
theorem dX7_readFigure_116 : decode cX7_readFigure 116 = .ok (.aload_n 0, 1) := by decide +kernel
theorem dX7_readFigure_117 : decode cX7_readFigure 117 = .ok (.iconst 0, 1) := by decide +kernel
theorem dX7_readFigure_118 : decode cX7_readFigure 118 = .ok (.bipush 64, 2) := by decide +kernel
theorem dX7_readFigure_120 : decode cX7_readFigure 120 = .ok (.invokevirtual 171, 3) := by decide +kernel
theorem dX7_readFigure_123 : decode cX7_readFigure 123 = .ok (.ifCond .ne 5, 3) := by decide +kernel
theorem dX7_readFigure_126 : decode cX7_readFigure 126 = .ok (.iconst 0, 1) := by decide +kernel
theorem dX7_readFigure_127 : decode cX7_readFigure 127 = .ok (.ireturn, 1) := by decide +kernel
theorem dX7_readFigure_128 : decode cX7_readFigure 128 = .ok (.aload_n 0, 1) := by decide +kernel
theorem dX7_readFigure_129 : decode cX7_readFigure 129 = .ok (.getfield 19, 3) := by decide +kernel
theorem dX7_readFigure_132 : decode cX7_readFigure 132 = .ok (.getfield 175, 3) := by decide +kernel
theorem dX7_readFigure_135 : decode cX7_readFigure 135 = .ok (.iload_n 1, 1) := by decide +kernel
theorem dX7_readFigure_136 : decode cX7_readFigure 136 = .ok (.aload_n 0, 1) := by decide +kernel
theorem dX7_readFigure_137 : decode cX7_readFigure 137 = .ok (.getfield 130, 3) := by decide +kernel
theorem dX7_readFigure_140 : decode cX7_readFigure 140 = .ok (.iastore, 1) := by decide +kernel
theorem dX7_readFigure_141 : decode cX7_readFigure 141 = .ok (.aload_n 0, 1) := by decide +kernel
theorem dX7_readFigure_142 : decode cX7_readFigure 142 = .ok (.bipush 6, 2) := by decide +kernel
theorem dX7_readFigure_144 : decode cX7_readFigure 144 = .ok (.invokevirtual 58, 3) := by decide +kernel
theorem dX7_readFigure_147 : decode cX7_readFigure 147 = .ok (.ifCond .eq 14, 3) := by decide +kernel
theorem dX7_readFigure_150 : decode cX7_readFigure 150 = .ok (.aload_n 0, 1) := by decide +kernel
theorem dX7_readFigure_151 : decode cX7_readFigure 151 = .ok (.iconst 0, 1) := by decide +kernel
theorem dX7_readFigure_152 : decode cX7_readFigure 152 = .ok (.sipush 1000, 3) := by decide +kernel
theorem dX7_readFigure_155 : decode cX7_readFigure 155 = .ok (.invokevirtual 171, 3) := by decide +kernel
theorem dX7_readFigure_158 : decode cX7_readFigure 158 = .ok (.ifCond .ne 5, 3) := by decide +kernel
theorem dX7_readFigure_161 : decode cX7_readFigure 161 = .ok (.iconst 0, 1) := by decide +kernel
theorem dX7_readFigure_162 : decode cX7_readFigure 162 = .ok (.ireturn, 1) := by decide +kernel
theorem dX7_readFigure_163 : decode cX7_readFigure 163 = .ok (.aload_n 0, 1) := by decide +kernel
theorem dX7_readFigure_164 : decode cX7_readFigure 164 = .ok (.getfield 19, 3) := by decide +kernel
theorem dX7_readFigure_167 : decode cX7_readFigure 167 = .ok (.getfield 178, 3) := by decide +kernel
theorem dX7_readFigure_170 : decode cX7_readFigure 170 = .ok (.iload_n 1, 1) := by decide +kernel
theorem dX7_readFigure_171 : decode cX7_readFigure 171 = .ok (.aload_n 0, 1) := by decide +kernel
theorem dX7_readFigure_172 : decode cX7_readFigure 172 = .ok (.getfield 130, 3) := by decide +kernel
theorem dX7_readFigure_175 : decode cX7_readFigure 175 = .ok (.iastore, 1) := by decide +kernel
theorem dX7_readFigure_176 : decode cX7_readFigure 176 = .ok (.aload_n 0, 1) := by decide +kernel
theorem dX7_readFigure_177 : decode cX7_readFigure 177 = .ok (.bipush 46, 2) := by decide +kernel
theorem dX7_readFigure_179 : decode cX7_readFigure 179 = .ok (.invokevirtual 58, 3) := by decide +kernel
theorem dX7_readFigure_182 : decode cX7_readFigure 182 = .ok (.ifCond .eq 24, 3) := by decide +kernel
theorem dX7_readFigure_185 : decode cX7_readFigure 185 = .ok (.aload_n 0, 1) := by decide +kernel
theorem dX7_readFigure_186 : decode cX7_readFigure 186 = .ok (.iload_n 1, 1) := by decide +kernel
theorem dX7_readFigure_187 : decode cX7_readFigure 187 = .ok (.aload_n 0, 1) := by decide +kernel
theorem dX7_readFigure_188 : decode cX7_readFigure 188 = .ok (.getfield 19, 3) := by decide +kernel
theorem dX7_readFigure_191 : decode cX7_readFigure 191 = .ok (.getfield 150, 3) := by decide +kernel
theorem dX7_readFigure_194 : decode cX7_readFigure 194 = .ok (.iload_n 2, 1) := by decide +kernel
theorem dX7_readFigure_195 : decode cX7_readFigure 195 = .ok (.iaload, 1) := by decide +kernel
theorem dX7_readFigure_196 : decode cX7_readFigure 196 = .ok (.invokevirtual 181, 3) := by decide +kernel
theorem dX7_readFigure_199 : decode cX7_readFigure 199 = .ok (.ifCond .eq 7, 3) := by decide +kernel
theorem dX7_readFigure_202 : decode cX7_readFigure 202 = .ok (.iconst 1, 1) := by decide +kernel
theorem dX7_readFigure_203 : decode cX7_readFigure 203 = .ok (.goto 4, 3) := by decide +kernel
theorem dX7_readFigure_206 : decode cX7_readFigure 206 = .ok (.iconst 0, 1) := by decide +kernel
theorem dX7_readFigure_207 : decode cX7_readFigure 207 = .ok (.ireturn, 1) := by decide +kernel
abbrev rm_f_X7_readFigure : Room := { frames := 4, cells := 0, slots := 0, locals := 89 }
def f_X7_readFigure (N : Nat) (t : St) : Option (Int × St) :=
    lt1 (t.1 (312 + 1) 2) fun v1 =>
    bdI (f_X6_isFull N 1 t) fun v3 t2 =>
    cmpI v3 0 (if v3 = 0 then (bdI (f_X7_pass N t2) fun v5 t4 =>
    cmpI v5 0 (if v5 = 0 then (boI 0 (some (0, t4)))
    else (bdI (f_X7_takeNew N t4) fun v7 t6 =>
    cmpI v7 0 (if v7 = 0 then (boI 0 (some (0, t6)))
    else (lt1 (t6.1 303 2) fun v8 =>
    bdV (f_X6_add N 1 335 12294 (v8 - 1) t6) fun t9 =>
    bdI (f_X7_take N 4 t9) fun v11 t10 =>
    cmpI v11 0 (if v11 = 0 then (boI 0 (some (0, t10)))
    else (bdI (f_X7_takeKnown N 0 t10) fun v13 t12 =>
    cmpI v13 0 (if v13 = 0 then (boI 0 (some (0, t12)))
    else (lt1 (t12.1 303 9) fun v14 =>
    ixI v1 100 (lt1 (pI t12 354 v1.toNat v14) fun t15 =>
    bdI (f_X7_take N 5 t15) fun v17 t16 =>
    cmpI v17 0 (if v17 = 0 then (boI 0 (some (0, t16)))
    else (bdI (f_X7_takeNumber N 0 64 t16) fun v19 t18 =>
    cmpI v19 0 (if v19 = 0 then (boI 0 (some (0, t18)))
    else (lt1 (t18.1 303 8) fun v20 =>
    ixI v1 100 (lt1 (pI t18 355 v1.toNat v20) fun t21 =>
    bdI (f_X7_take N 6 t21) fun v23 t22 =>
    cmpI v23 0 (if v23 = 0 then (boI 0 (some (0, t22)))
    else (bdI (f_X7_takeNumber N 0 1000 t22) fun v25 t24 =>
    cmpI v25 0 (if v25 = 0 then (boI 0 (some (0, t24)))
    else (lt1 (t24.1 303 8) fun v26 =>
    ixI v1 100 (lt1 (pI t24 356 v1.toNat v26) fun t27 =>
    bdI (f_X7_take N 46 t27) fun v29 t28 =>
    cmpI v29 0 (if v29 = 0 then (boI 0 (some (0, t28)))
    else (ixI v14 40 (lt1 (t28.1 350 v14.toNat) fun v30 =>
    bdI (f_X7_readGoals N v1 v30 t28) fun v32 t31 =>
    cmpI v32 0 (if v32 = 0 then (boI 0 (some (0, t31)))
    else (boI 1 (some (1, t31)))))))))))))))))))))))))))
    else (bdI (f_X7_wrong N 5 t2) fun v34 t33 =>
    boI v34 (some (v34, t33))))
set_option maxHeartbeats 4000000 in
set_option maxRecDepth 100000 in
theorem b_f_X7_readFigure {p : Program} {l : Launch} {e : Env} {s : State} {m : MethodId} {args : Array Value} {below : List Frame} {meth : Method} {c : Code} {E : cE} {A : Nat → Prop} {r : Nat → Nat} {mc ms : Nat} {z : Int × St} {N : Nat} {t : St} (X : gX p s m meth c cX7_readFigure 3 (some .boolean) yX7_readFigure args E A) (h : f_X7_readFigure N t = some z) : gP p l e rm_f_X7_readFigure s m args below meth c E A 3 (MQ below ((gqI E (gW E r shH) z) A) args s mc ms A) (gW E r shH) 0 [(0, .ref (r 303))] [] t := by
  unfold f_X7_readFigure at h
  refine g_aload_n X dX7_readFigure_0 0 rfl ?_
  refine g_getR X fH_X7_19_303 rfl dX7_readFigure_1 ?_
  refine g_getR X fH_X7_110_302 rfl dX7_readFigure_4 ?_
  refine g_getI X (fH_X7_107_o (o := 1) (by decide)) rfl dX7_readFigure_7 h (fun v1 h => ?_)
  refine g_istore_n (lv' := [(1, iv v1), (0, .ref (r 303))]) X dX7_readFigure_10 rfl (by decide) rfl ?_
  refine g_aload_n X dX7_readFigure_11 1 rfl ?_
  refine g_getR X fH_X7_19_303 rfl dX7_readFigure_12 ?_
  refine g_getR X fH_X7_110_302 rfl dX7_readFigure_15 ?_
  refine g_callOI (rest := []) X (fun u9 h9 => cp_X6_isFull l E r N 1 (by decide) t u9 h9) yy_X6_isFull yi_X6_isFull wdM_RX7_140 (oX6 (o := 1) (by decide)) rfl rfl rfl (Nat.le_of_ble_eq_true rfl) dX7_readFigure_18 ⟨by decide, by decide⟩ ⟨rfl, rfl⟩ h (fun v3 t2 h => ?_)
  refine g_if_eq (tgt := 30) X dX7_readFigure_21 (by decide) h (fun h => ?_) (fun h => ?_)
  · refine g_aload_n X dX7_readFigure_30 1 rfl ?_
    refine g_callOI (rest := []) X (fun u9 h9 => cp_X7_pass l E r N t2 u9 h9) yy_X7_pass yi_X7_pass wdM_RX7_127 ⟨_, _, oH_303⟩ rfl rfl rfl (Nat.le_of_ble_eq_true rfl) dX7_readFigure_31 ⟨by decide, by decide⟩ ⟨rfl, rfl⟩ h (fun v5 t4 h => ?_)
    refine g_if_eq (tgt := 44) X dX7_readFigure_34 (by decide) h (fun h => ?_) (fun h => ?_)
    · refine g_iconst X dX7_readFigure_44 ?_
      exact g_zret X h dX7_readFigure_45
    · refine g_aload_n X dX7_readFigure_37 1 rfl ?_
      refine g_callOI (rest := []) X (fun u9 h9 => cp_X7_takeNew l E r N t4 u9 h9) yy_X7_takeNew yi_X7_takeNew wdM_RX7_143 ⟨_, _, oH_303⟩ rfl rfl rfl (Nat.le_of_ble_eq_true rfl) dX7_readFigure_38 ⟨by decide, by decide⟩ ⟨rfl, rfl⟩ h (fun v7 t6 h => ?_)
      refine g_if_ne (tgt := 46) X dX7_readFigure_41 (by decide) h (fun h => ?_) (fun h => ?_)
      · refine g_aload_n X dX7_readFigure_46 1 rfl ?_
        refine g_getR X fH_X7_19_303 rfl dX7_readFigure_47 ?_
        refine g_getR X fH_X7_110_302 rfl dX7_readFigure_50 ?_
        refine g_aload_n X dX7_readFigure_53 1 rfl ?_
        refine g_getR X fH_X7_15_303 rfl dX7_readFigure_54 ?_
        refine g_getR X fH_X7_67_301 rfl dX7_readFigure_57 ?_
        refine g_aload_n X dX7_readFigure_60 1 rfl ?_
        refine g_getI X fH_X7_77_303 rfl dX7_readFigure_61 h (fun v8 h => ?_)
        refine g_iconst X dX7_readFigure_64 ?_
        refine g_isub X dX7_readFigure_65 ?_
        refine g_callOV (rest := []) X (fun u9 h9 => cp_X6_add l E r N 1 (by decide) 335 12294 aH_335 (v8 - 1) t6 u9 h9) yy_X6_add yi_X6_add wdM_RX7_146 (oX6 (o := 1) (by decide)) rfl rfl rfl (Nat.le_of_ble_eq_true rfl) dX7_readFigure_66 ⟨by decide, by decide⟩ ⟨rfl, rfl⟩ h (fun t9 h => ?_)
        refine g_aload_n X dX7_readFigure_69 1 rfl ?_
        refine g_iconst X dX7_readFigure_70 ?_
        refine g_callOI (rest := []) X (fun u9 h9 => cp_X7_take l E r N 4 t9 u9 h9) yy_X7_take yi_X7_take wdM_RX7_58 ⟨_, _, oH_303⟩ rfl rfl rfl (Nat.le_of_ble_eq_true rfl) dX7_readFigure_71 ⟨by decide, by decide⟩ ⟨rfl, rfl⟩ h (fun v11 t10 h => ?_)
        refine g_if_eq (tgt := 91) X dX7_readFigure_74 (by decide) h (fun h => ?_) (fun h => ?_)
        · refine g_iconst X dX7_readFigure_91 ?_
          exact g_zret X h dX7_readFigure_92
        · refine g_aload_n X dX7_readFigure_77 1 rfl ?_
          refine g_aload_n X dX7_readFigure_78 1 rfl ?_
          refine g_getR X fH_X7_19_303 rfl dX7_readFigure_79 ?_
          refine g_getR X fH_X7_103_302 rfl dX7_readFigure_82 ?_
          refine g_callOI (rest := []) X (fun u9 h9 => cp_X7_takeKnown l E r N 0 (by decide) t10 u9 h9) yy_X7_takeKnown yi_X7_takeKnown wdM_RX7_164 ⟨_, _, oH_303⟩ rfl rfl rfl (Nat.le_of_ble_eq_true rfl) dX7_readFigure_85 ⟨by decide, by decide⟩ ⟨rfl, rfl⟩ h (fun v13 t12 h => ?_)
          refine g_if_ne (tgt := 93) X dX7_readFigure_88 (by decide) h (fun h => ?_) (fun h => ?_)
          · refine g_aload_n X dX7_readFigure_93 1 rfl ?_
            refine g_getI X fH_X7_137_303 rfl dX7_readFigure_94 h (fun v14 h => ?_)
            refine g_istore_n (lv' := [(2, iv v14), (1, iv v1), (0, .ref (r 303))]) X dX7_readFigure_97 rfl (by decide) rfl ?_
            refine g_aload_n X dX7_readFigure_98 2 rfl ?_
            refine g_getR X fH_X7_19_303 rfl dX7_readFigure_99 ?_
            refine g_getR X fH_X7_168_302 rfl dX7_readFigure_102 ?_
            refine g_iload_n X dX7_readFigure_105 1 rfl ?_
            refine g_iload_n X dX7_readFigure_106 0 rfl ?_
            refine g_iast X aH_354 dX7_readFigure_107 h (fun t15 h => ?_)
            refine g_aload_n X dX7_readFigure_108 2 rfl ?_
            refine g_iconst X dX7_readFigure_109 ?_
            refine g_callOI (rest := []) X (fun u9 h9 => cp_X7_take l E r N 5 t15 u9 h9) yy_X7_take yi_X7_take wdM_RX7_58 ⟨_, _, oH_303⟩ rfl rfl rfl (Nat.le_of_ble_eq_true rfl) dX7_readFigure_110 ⟨by decide, by decide⟩ ⟨rfl, rfl⟩ h (fun v17 t16 h => ?_)
            refine g_if_eq (tgt := 126) X dX7_readFigure_113 (by decide) h (fun h => ?_) (fun h => ?_)
            · refine g_iconst X dX7_readFigure_126 ?_
              exact g_zret X h dX7_readFigure_127
            · refine g_aload_n X dX7_readFigure_116 2 rfl ?_
              refine g_iconst X dX7_readFigure_117 ?_
              refine g_bipush X dX7_readFigure_118 (by decide) ?_
              refine g_callOI (rest := []) X (fun u9 h9 => cp_X7_takeNumber l E r N 0 64 t16 u9 h9) yy_X7_takeNumber yi_X7_takeNumber wdM_RX7_171 ⟨_, _, oH_303⟩ rfl rfl rfl (Nat.le_of_ble_eq_true rfl) dX7_readFigure_120 ⟨by decide, by decide⟩ ⟨rfl, rfl⟩ h (fun v19 t18 h => ?_)
              refine g_if_ne (tgt := 128) X dX7_readFigure_123 (by decide) h (fun h => ?_) (fun h => ?_)
              · refine g_aload_n X dX7_readFigure_128 2 rfl ?_
                refine g_getR X fH_X7_19_303 rfl dX7_readFigure_129 ?_
                refine g_getR X fH_X7_175_302 rfl dX7_readFigure_132 ?_
                refine g_iload_n X dX7_readFigure_135 1 rfl ?_
                refine g_aload_n X dX7_readFigure_136 2 rfl ?_
                refine g_getI X fH_X7_130_303 rfl dX7_readFigure_137 h (fun v20 h => ?_)
                refine g_iast X aH_355 dX7_readFigure_140 h (fun t21 h => ?_)
                refine g_aload_n X dX7_readFigure_141 2 rfl ?_
                refine g_bipush X dX7_readFigure_142 (by decide) ?_
                refine g_callOI (rest := []) X (fun u9 h9 => cp_X7_take l E r N 6 t21 u9 h9) yy_X7_take yi_X7_take wdM_RX7_58 ⟨_, _, oH_303⟩ rfl rfl rfl (Nat.le_of_ble_eq_true rfl) dX7_readFigure_144 ⟨by decide, by decide⟩ ⟨rfl, rfl⟩ h (fun v23 t22 h => ?_)
                refine g_if_eq (tgt := 161) X dX7_readFigure_147 (by decide) h (fun h => ?_) (fun h => ?_)
                · refine g_iconst X dX7_readFigure_161 ?_
                  exact g_zret X h dX7_readFigure_162
                · refine g_aload_n X dX7_readFigure_150 2 rfl ?_
                  refine g_iconst X dX7_readFigure_151 ?_
                  refine g_sipush X dX7_readFigure_152 (by decide) ?_
                  refine g_callOI (rest := []) X (fun u9 h9 => cp_X7_takeNumber l E r N 0 1000 t22 u9 h9) yy_X7_takeNumber yi_X7_takeNumber wdM_RX7_171 ⟨_, _, oH_303⟩ rfl rfl rfl (Nat.le_of_ble_eq_true rfl) dX7_readFigure_155 ⟨by decide, by decide⟩ ⟨rfl, rfl⟩ h (fun v25 t24 h => ?_)
                  refine g_if_ne (tgt := 163) X dX7_readFigure_158 (by decide) h (fun h => ?_) (fun h => ?_)
                  · refine g_aload_n X dX7_readFigure_163 2 rfl ?_
                    refine g_getR X fH_X7_19_303 rfl dX7_readFigure_164 ?_
                    refine g_getR X fH_X7_178_302 rfl dX7_readFigure_167 ?_
                    refine g_iload_n X dX7_readFigure_170 1 rfl ?_
                    refine g_aload_n X dX7_readFigure_171 2 rfl ?_
                    refine g_getI X fH_X7_130_303 rfl dX7_readFigure_172 h (fun v26 h => ?_)
                    refine g_iast X aH_356 dX7_readFigure_175 h (fun t27 h => ?_)
                    refine g_aload_n X dX7_readFigure_176 2 rfl ?_
                    refine g_bipush X dX7_readFigure_177 (by decide) ?_
                    refine g_callOI (rest := []) X (fun u9 h9 => cp_X7_take l E r N 46 t27 u9 h9) yy_X7_take yi_X7_take wdM_RX7_58 ⟨_, _, oH_303⟩ rfl rfl rfl (Nat.le_of_ble_eq_true rfl) dX7_readFigure_179 ⟨by decide, by decide⟩ ⟨rfl, rfl⟩ h (fun v29 t28 h => ?_)
                    refine g_if_eq (tgt := 206) X dX7_readFigure_182 (by decide) h (fun h => ?_) (fun h => ?_)
                    · refine g_iconst X dX7_readFigure_206 ?_
                      exact g_zret X h dX7_readFigure_207
                    · refine g_aload_n X dX7_readFigure_185 2 rfl ?_
                      refine g_iload_n X dX7_readFigure_186 1 rfl ?_
                      refine g_aload_n X dX7_readFigure_187 2 rfl ?_
                      refine g_getR X fH_X7_19_303 rfl dX7_readFigure_188 ?_
                      refine g_getR X fH_X7_150_302 rfl dX7_readFigure_191 ?_
                      refine g_iload_n X dX7_readFigure_194 0 rfl ?_
                      refine g_iald X aH_350 dX7_readFigure_195 h (fun v30 h => ?_)
                      refine g_callOI (rest := []) X (fun u9 h9 => cp_X7_readGoals l E r N v1 v30 t28 u9 h9) yy_X7_readGoals yi_X7_readGoals wdM_RX7_181 ⟨_, _, oH_303⟩ rfl rfl rfl (Nat.le_of_ble_eq_true rfl) dX7_readFigure_196 ⟨by decide, by decide⟩ ⟨rfl, rfl⟩ h (fun v32 t31 h => ?_)
                      refine g_if_eq (tgt := 206) X dX7_readFigure_199 (by decide) h (fun h => ?_) (fun h => ?_)
                      · refine g_iconst X dX7_readFigure_206 ?_
                        exact g_zret X h dX7_readFigure_207
                      · refine g_iconst X dX7_readFigure_202 ?_
                        refine g_goto (tgt := 207) X dX7_readFigure_203 (by decide) ?_
                        exact g_zret X h dX7_readFigure_207
                  · refine g_iconst X dX7_readFigure_161 ?_
                    exact g_zret X h dX7_readFigure_162
              · refine g_iconst X dX7_readFigure_126 ?_
                exact g_zret X h dX7_readFigure_127
          · refine g_iconst X dX7_readFigure_91 ?_
            exact g_zret X h dX7_readFigure_92
      · refine g_iconst X dX7_readFigure_44 ?_
        exact g_zret X h dX7_readFigure_45
  · refine g_aload_n X dX7_readFigure_24 1 rfl ?_
    refine g_iconst X dX7_readFigure_25 ?_
    refine g_callOI (rest := []) X (fun u9 h9 => cp_X7_wrong l E r N 5 t2 u9 h9) yy_X7_wrong yi_X7_wrong wdM_RX7_48 ⟨_, _, oH_303⟩ rfl rfl rfl (Nat.le_of_ble_eq_true rfl) dX7_readFigure_26 ⟨by decide, by decide⟩ ⟨rfl, rfl⟩ h (fun v34 t33 h => ?_)
    exact g_zret X h dX7_readFigure_29
set_option maxHeartbeats 4000000 in
set_option maxRecDepth 100000 in
theorem cp_X7_readFigure (l : Launch) (E : cE) (r : Nat → Nat) (N : Nat) (t : St) (z : Int × St) (h : f_X7_readFigure N t = some z) : cM l E yX7_readFigure cX7_readFigure 3 (some .boolean) rm_f_X7_readFigure [.ref (r 303)] (gW E r shH t) (gqI E (gW E r shH) z) := by
  refine g_of (w := gW E r shH) (by decide) (Nat.le_of_ble_eq_true rfl) ?_
  intro p e s m below meth c A X
  exact g_sub (lv' := [(0, .ref (r 303))]) [0] rfl (b_f_X7_readFigure X h)
theorem yy_X7_readFigure : cY yX7_readFigure cX7_readFigure 3 (some .boolean) 0 := ⟨wdK_X7_readFigure, wdZ_RX7, by decide +kernel⟩
theorem yi_X7_readFigure : cYi yX7_readFigure := ⟨wdN_X7_readFigure, wdS_X7_readFigure⟩
