abbrev rm_f_X12_in : Room := { frames := 0, cells := 0, slots := 0, locals := 0 }
def f_X12_in (N : Nat) (a0 : Int) (a1 : Int) (a2 : Int) (t : St) : Option (Int × St) :=
cmpI a0 a1 (if a0 < a1 then (boI 0 (some (0, t)))
else (cmpI a0 a2 (if a2 < a0 then (boI 0 (some (0, t)))
else (boI 1 (some (1, t))))))
set_option maxHeartbeats 4000000 in
set_option maxRecDepth 100000 in
theorem c_X12_in (l : Launch) (E : cE) (r : Nat → Nat) (N : Nat) (a0 : Int) (a1 : Int) (a2 : Int) (t : St) (z : Int × St) (h : f_X12_in N a0 a1 a2 t = some z) : cM l E yX12_in cX12_in 3 (some .boolean) rm_f_X12_in [iv a0, iv a1, iv a2] (gW E r shM t) (gqI E (gW E r shM) z) := by
  unfold f_X12_in at h
  refine g_of (w := gW E r shM) (by decide) (Nat.le_of_ble_eq_true rfl) ?_
  intro p e s m below meth c A X
  refine g_sub (lv' := [(0, iv a0), (1, iv a1), (2, iv a2)]) [0, 1, 2] rfl ?_
  refine g_iload_n X dX12_in_0 0 rfl ?_
  refine g_iload_n X dX12_in_1 1 rfl ?_
  refine g_icmp_lt (tgt := 14) X dX12_in_2 (by decide) h (fun h => ?_) (fun h => ?_)
  · refine g_iconst X dX12_in_14 ?_
    exact g_zret X h dX12_in_15
  · refine g_iload_n X dX12_in_5 0 rfl ?_
    refine g_iload_n X dX12_in_6 2 rfl ?_
    refine g_icmp_gt (tgt := 14) X dX12_in_7 (by decide) h (fun h => ?_) (fun h => ?_)
    · refine g_iconst X dX12_in_14 ?_
      exact g_zret X h dX12_in_15
    · refine g_iconst X dX12_in_10 ?_
      refine g_goto (tgt := 15) X dX12_in_11 (by decide) ?_
      exact g_zret X h dX12_in_15
theorem dX12_turns_0 : decode cX12_turns 0 = .ok (.iload_n 0, 1) := by decide +kernel
theorem dX12_turns_1 : decode cX12_turns 1 = .ok (.iconst 3, 1) := by decide +kernel
theorem dX12_turns_2 : decode cX12_turns 2 = .ok (.iand, 1) := by decide +kernel
theorem dX12_turns_3 : decode cX12_turns 3 = .ok (.ireturn, 1) := by decide +kernel
abbrev rm_f_X12_turns : Room := { frames := 0, cells := 0, slots := 0, locals := 0 }
def f_X12_turns (N : Nat) (a0 : Int) (t : St) : Option (Int × St) :=
some (a0 % 4, t)
set_option maxHeartbeats 4000000 in
set_option maxRecDepth 100000 in
theorem c_X12_turns (l : Launch) (E : cE) (r : Nat → Nat) (N : Nat) (a0 : Int) (t : St) (z : Int × St) (h : f_X12_turns N a0 t = some z) : cM l E yX12_turns cX12_turns 1 (some .int) rm_f_X12_turns [iv a0] (gW E r shM t) (gqI E (gW E r shM) z) := by
  unfold f_X12_turns at h
  refine g_of (w := gW E r shM) (by decide) (Nat.le_of_ble_eq_true rfl) ?_
  intro p e s m below meth c A X
  refine g_sub (lv' := [(0, iv a0)]) [0] rfl ?_
  refine g_iload_n X dX12_turns_0 0 rfl ?_
  refine g_iconst X dX12_turns_1 ?_
  refine g_mask X 2 (by decide) (M := 4) (by decide) (by decide) dX12_turns_2 ?_
  exact g_iret X h dX12_turns_3
theorem yy_X12_turns : cY yX12_turns cX12_turns 1 (some .int) 1 := ⟨wdK_X12_turns, wdZ_RX12, by decide +kernel⟩
abbrev rm_f_X12_stands : Room := { frames := 0, cells := 0, slots := 0, locals := 0 }
def f_X12_stands (N : Nat) (a0 : Int) (a1 : Int) (a2 : Int) (a3 : Int) (t : St) : Option (St) :=
ixI a0 64 (lt1 (pI t 38 a0.toNat a1) fun t1 =>
ixI a0 64 (lt1 (pI t1 39 a0.toNat a2) fun t2 =>
ixI a0 64 (lt1 (pI t2 40 a0.toNat a3) fun t3 =>
ixI a0 64 (lt1 (pI t3 41 a0.toNat 0) fun t4 =>
some t4))))
set_option maxHeartbeats 4000000 in
set_option maxRecDepth 100000 in
theorem c_X12_stands (l : Launch) (E : cE) (r : Nat → Nat) (N : Nat) (a0 : Int) (a1 : Int) (a2 : Int) (a3 : Int) (t : St) (z : St) (h : f_X12_stands N a0 a1 a2 a3 t = some z) : cM l E yX12_stands cX12_stands 5 none rm_f_X12_stands [.ref (r 200), iv a0, iv a1, iv a2, iv a3] (gW E r shM t) (gqV E (gW E r shM) z) := by
  unfold f_X12_stands at h
  refine g_of (w := gW E r shM) (by decide) (Nat.le_of_ble_eq_true rfl) ?_
  intro p e s m below meth c A X
  refine g_sub (lv' := [(0, .ref (r 200)), (1, iv a0), (2, iv a1), (3, iv a2), (4, iv a3)]) [0, 1, 2, 3, 4] rfl ?_
  refine g_aload_n X dX12_stands_0 0 rfl ?_
  refine g_getR X fM_38 rfl dX12_stands_1 ?_
  refine g_iload_n X dX12_stands_4 1 rfl ?_
  refine g_iload_n X dX12_stands_5 2 rfl ?_
  refine g_iast X aM_38 dX12_stands_6 h (fun t1 h => ?_)
  refine g_aload_n X dX12_stands_7 0 rfl ?_
  refine g_getR X fM_39 rfl dX12_stands_8 ?_
  refine g_iload_n X dX12_stands_11 1 rfl ?_
  refine g_iload_n X dX12_stands_12 3 rfl ?_
  refine g_iast X aM_39 dX12_stands_13 h (fun t2 h => ?_)
  refine g_aload_n X dX12_stands_14 0 rfl ?_
  refine g_getR X fM_40 rfl dX12_stands_15 ?_
  refine g_iload_n X dX12_stands_18 1 rfl ?_
  refine g_iload X dX12_stands_19 4 rfl ?_
  refine g_iast X aM_40 dX12_stands_21 h (fun t3 h => ?_)
  refine g_aload_n X dX12_stands_22 0 rfl ?_
  refine g_getR X fM_41 rfl dX12_stands_23 ?_
  refine g_iload_n X dX12_stands_26 1 rfl ?_
  refine g_iconst X dX12_stands_27 ?_
  refine g_iast X aM_41 dX12_stands_28 h (fun t4 h => ?_)
  exact g_vret X h dX12_stands_29
abbrev rm_f_X12_marks : Room := { frames := 0, cells := 0, slots := 0, locals := 0 }
def f_X12_marks_L2 (K3 : (St → Option (St))) : Nat → Int → St → Option (St)
  | 0, _, _ => none
  | n9 + 1, x1, t2 =>
lt1 (t2.1 200 37) fun v4 =>
cmpI x1 v4 (if x1 < v4 then (ixI x1 64 (lt1 (t2.1 38 x1.toNat) fun v5 =>
ixI x1 64 (lt1 (pI t2 47 x1.toNat v5) fun t6 =>
ixI x1 64 (lt1 (t6.1 39 x1.toNat) fun v7 =>
ixI x1 64 (lt1 (pI t6 48 x1.toNat v7) fun t8 =>
ixI x1 64 (lt1 (t8.1 40 x1.toNat) fun v9 =>
ixI x1 64 (lt1 (pI t8 49 x1.toNat v9) fun t10 =>
f_X12_marks_L2 K3 n9 (x1 + 1) t10)))))))
else (K3 t2))
def f_X12_marks (N : Nat) (t : St) : Option (St) :=
f_X12_marks_L2 (fun (t11 : St) => some t11) N 0 t
set_option maxHeartbeats 4000000 in
set_option maxRecDepth 100000 in
theorem t_f_X12_marks_L2 {p : Program} {l : Launch} {e : Env} {s : State} {m : MethodId} {args : Array Value} {below : List Frame} {meth : Method} {c : Code} {E : cE} {A : Nat → Prop} {r : Nat → Nat} {mc ms : Nat} {z : St} {N : Nat} {K3 : (St → Option (St))} (X : gX p s m meth c cX12_marks 2 none yX12_marks args E A) (hK3 : ∀ (t9 : St), K3 t9 = some z → gP p l e rm_f_X12_marks s m args below meth c E A 2 (MQ below ((gqV E (gW E r shM) z) A) args s mc ms A) (gW E r shM) 52 [] [] t9) : ∀ (n9 : Nat) (x1 : Int) (t2 : St), f_X12_marks_L2 K3 n9 x1 t2 = some z → gP p l e rm_f_X12_marks s m args below meth c E A 2 (MQ below ((gqV E (gW E r shM) z) A) args s mc ms A) (gW E r shM) 2 [(0, .ref (r 200)), (1, iv x1)] [] t2 := by
  intro n9
  induction n9 with
  | zero => intro x1 t2 h; cases h
  | succ n9 ih =>
    intro x1 t2 h
    unfold f_X12_marks_L2 at h
    refine g_iload_n X dX12_marks_2 1 rfl ?_
    refine g_aload_n X dX12_marks_3 0 rfl ?_
    refine g_getI X fM_37 rfl dX12_marks_4 h (fun v4 h => ?_)
    refine g_icmp_ge (tgt := 52) X dX12_marks_7 (by decide) h (fun h => ?_) (fun h => ?_)
    · exact g_sub (lv' := []) [] rfl (hK3 t2 h)
    · refine g_aload_n X dX12_marks_10 0 rfl ?_
      refine g_getR X fM_47 rfl dX12_marks_11 ?_
      refine g_iload_n X dX12_marks_14 1 rfl ?_
      refine g_aload_n X dX12_marks_15 0 rfl ?_
      refine g_getR X fM_38 rfl dX12_marks_16 ?_
      refine g_iload_n X dX12_marks_19 1 rfl ?_
      refine g_iald X aM_38 dX12_marks_20 h (fun v5 h => ?_)
      refine g_iast X aM_47 dX12_marks_21 h (fun t6 h => ?_)
      refine g_aload_n X dX12_marks_22 0 rfl ?_
      refine g_getR X fM_48 rfl dX12_marks_23 ?_
      refine g_iload_n X dX12_marks_26 1 rfl ?_
      refine g_aload_n X dX12_marks_27 0 rfl ?_
      refine g_getR X fM_39 rfl dX12_marks_28 ?_
      refine g_iload_n X dX12_marks_31 1 rfl ?_
      refine g_iald X aM_39 dX12_marks_32 h (fun v7 h => ?_)
      refine g_iast X aM_48 dX12_marks_33 h (fun t8 h => ?_)
      refine g_aload_n X dX12_marks_34 0 rfl ?_
      refine g_getR X fM_49 rfl dX12_marks_35 ?_
      refine g_iload_n X dX12_marks_38 1 rfl ?_
      refine g_aload_n X dX12_marks_39 0 rfl ?_
      refine g_getR X fM_40 rfl dX12_marks_40 ?_
      refine g_iload_n X dX12_marks_43 1 rfl ?_
      refine g_iald X aM_40 dX12_marks_44 h (fun v9 h => ?_)
      refine g_iast X aM_49 dX12_marks_45 h (fun t10 h => ?_)
      refine g_iinc (lv' := [(1, iv (x1 + 1)), (0, .ref (r 200))]) X dX12_marks_46 (k := 1) rfl (by decide) rfl ?_
      refine g_goto (tgt := 2) X dX12_marks_49 (by decide) ?_
      exact g_sub (lv' := [(0, .ref (r 200)), (1, iv (x1 + 1))]) [1, 0] rfl (ih (x1 + 1) t10 h)
set_option maxHeartbeats 4000000 in
set_option maxRecDepth 100000 in
theorem c_X12_marks (l : Launch) (E : cE) (r : Nat → Nat) (N : Nat) (t : St) (z : St) (h : f_X12_marks N t = some z) : cM l E yX12_marks cX12_marks 2 none rm_f_X12_marks [.ref (r 200)] (gW E r shM t) (gqV E (gW E r shM) z) := by
  unfold f_X12_marks at h
  refine g_of (w := gW E r shM) (by decide) (Nat.le_of_ble_eq_true rfl) ?_
  intro p e s m below meth c A X
  refine g_sub (lv' := [(0, .ref (r 200))]) [0] rfl ?_
  refine g_iconst X dX12_marks_0 ?_
  refine g_istore_n (lv' := [(1, iv 0), (0, .ref (r 200))]) X dX12_marks_1 rfl (by decide) rfl ?_
  refine g_sub (lv' := [(0, .ref (r 200)), (1, iv 0)]) [1, 0] rfl (t_f_X12_marks_L2 X (fun t11 h => ?_) N 0 t h)
  · exact g_vret X h dX12_marks_52
abbrev rm_f_X12_isHome : Room := { frames := 0, cells := 0, slots := 0, locals := 0 }
def f_X12_isHome_L4 (K4 : (Int → St → Option (Int × St))) : Nat → Int → Int → St → Option (Int × St)
  | 0, _, _, _ => none
  | n9 + 1, x1, x2, t3 =>
lt1 (t3.1 200 37) fun v5 =>
cmpI x2 v5 (if x2 < v5 then (jn1 (fun (j6 : Int) (t7 : St) => f_X12_isHome_L4 K4 n9 j6 (x2 + 1) t7) fun J8 =>
jn1 (fun (t9 : St) => J8 0 t9) fun J10 =>
cmpI x1 0 (if x1 = 0 then (J10 t3)
else (ixI x2 64 (lt1 (t3.1 38 x2.toNat) fun v11 =>
ixI x2 64 (lt1 (t3.1 44 x2.toNat) fun v12 =>
cmpI v11 v12 (if v11 = v12 then (ixI x2 64 (lt1 (t3.1 39 x2.toNat) fun v13 =>
ixI x2 64 (lt1 (t3.1 45 x2.toNat) fun v14 =>
cmpI v13 v14 (if v13 = v14 then (ixI x2 64 (lt1 (t3.1 40 x2.toNat) fun v15 =>
ixI x2 64 (lt1 (t3.1 46 x2.toNat) fun v16 =>
cmpI v15 v16 (if v15 = v16 then (J8 1 t3)
else (J10 t3)))))
else (J10 t3)))))
else (J10 t3)))))))
else (K4 x1 t3))
def f_X12_isHome (N : Nat) (t : St) : Option (Int × St) :=
f_X12_isHome_L4 (fun (k17 : Int) (t18 : St) => boI k17 (some (k17, t18))) N 1 0 t
set_option maxHeartbeats 4000000 in
set_option maxRecDepth 100000 in
theorem t_f_X12_isHome_L4 {p : Program} {l : Launch} {e : Env} {s : State} {m : MethodId} {args : Array Value} {below : List Frame} {meth : Method} {c : Code} {E : cE} {A : Nat → Prop} {r : Nat → Nat} {mc ms : Nat} {z : Int × St} {N : Nat} {K4 : (Int → St → Option (Int × St))} (X : gX p s m meth c cX12_isHome 3 (some .boolean) yX12_isHome args E A) (hK4 : ∀ (q1 : Int) (t9 : St), K4 q1 t9 = some z → gP p l e rm_f_X12_isHome s m args below meth c E A 3 (MQ below ((gqI E (gW E r shM) z) A) args s mc ms A) (gW E r shM) 73 [(1, iv q1)] [] t9) : ∀ (n9 : Nat) (x1 : Int) (x2 : Int) (t3 : St), f_X12_isHome_L4 K4 n9 x1 x2 t3 = some z → gP p l e rm_f_X12_isHome s m args below meth c E A 3 (MQ below ((gqI E (gW E r shM) z) A) args s mc ms A) (gW E r shM) 4 [(0, .ref (r 200)), (1, iv x1), (2, iv x2)] [] t3 := by
  intro n9
  induction n9 with
  | zero => intro x1 x2 t3 h; cases h
  | succ n9 ih =>
    intro x1 x2 t3 h
    unfold f_X12_isHome_L4 at h
    refine g_iload_n X dX12_isHome_4 2 rfl ?_
    refine g_aload_n X dX12_isHome_5 0 rfl ?_
    refine g_getI X fM_37 rfl dX12_isHome_6 h (fun v5 h => ?_)
    refine g_icmp_ge (tgt := 73) X dX12_isHome_9 (by decide) h (fun h => ?_) (fun h => ?_)
    · exact g_sub (lv' := [(1, iv x1)]) [1] rfl (hK4 x1 t3 h)
    · refine g_iload_n X dX12_isHome_12 1 rfl ?_
      refine g_join (J := fun j9 => ∀ (j6 : Int) (t7 : St), j9 j6 t7 = some z → gP p l e rm_f_X12_isHome s m args below meth c E A 3 (MQ below ((gqI E (gW E r shM) z) A) args s mc ms A) (gW E r shM) 66 [(0, .ref (r 200)), (2, iv x2)] [iv j6] t7) h (fun j6 t7 h => ?_) (fun J8 hJ8 h => ?_)
      · refine g_istore_n (lv' := [(1, iv j6), (0, .ref (r 200)), (2, iv x2)]) X dX12_isHome_66 rfl (by decide) rfl ?_
        refine g_iinc (lv' := [(2, iv (x2 + 1)), (1, iv j6), (0, .ref (r 200))]) X dX12_isHome_67 (k := 2) rfl (by decide) rfl ?_
        refine g_goto (tgt := 4) X dX12_isHome_70 (by decide) ?_
        exact g_sub (lv' := [(0, .ref (r 200)), (1, iv j6), (2, iv (x2 + 1))]) [2, 1, 0] rfl (ih j6 (x2 + 1) t7 h)
      refine g_join (J := fun j9 => ∀ (t9 : St), j9  t9 = some z → gP p l e rm_f_X12_isHome s m args below meth c E A 3 (MQ below ((gqI E (gW E r shM) z) A) args s mc ms A) (gW E r shM) 65 [(0, .ref (r 200)), (2, iv x2)] [] t9) h (fun  t9 h => ?_) (fun J10 hJ10 h => ?_)
      · refine g_iconst X dX12_isHome_65 ?_
        exact g_sub (lv' := [(0, .ref (r 200)), (2, iv x2)]) [0, 1] rfl (hJ8 0 t9 h)
      refine g_if_eq (tgt := 65) X dX12_isHome_13 (by decide) h (fun h => ?_) (fun h => ?_)
      · exact g_sub (lv' := [(0, .ref (r 200)), (2, iv x2)]) [0, 2] rfl (hJ10 t3 h)
      · refine g_aload_n X dX12_isHome_16 0 rfl ?_
        refine g_getR X fM_38 rfl dX12_isHome_17 ?_
        refine g_iload_n X dX12_isHome_20 2 rfl ?_
        refine g_iald X aM_38 dX12_isHome_21 h (fun v11 h => ?_)
        refine g_aload_n X dX12_isHome_22 0 rfl ?_
        refine g_getR X fM_44 rfl dX12_isHome_23 ?_
        refine g_iload_n X dX12_isHome_26 2 rfl ?_
        refine g_iald X aM_44 dX12_isHome_27 h (fun v12 h => ?_)
        refine g_icmp_ne (tgt := 65) X dX12_isHome_28 (by decide) h (fun h => ?_) (fun h => ?_)
        · exact g_sub (lv' := [(0, .ref (r 200)), (2, iv x2)]) [0, 2] rfl (hJ10 t3 h)
        · refine g_aload_n X dX12_isHome_31 0 rfl ?_
          refine g_getR X fM_39 rfl dX12_isHome_32 ?_
          refine g_iload_n X dX12_isHome_35 2 rfl ?_
          refine g_iald X aM_39 dX12_isHome_36 h (fun v13 h => ?_)
          refine g_aload_n X dX12_isHome_37 0 rfl ?_
          refine g_getR X fM_45 rfl dX12_isHome_38 ?_
          refine g_iload_n X dX12_isHome_41 2 rfl ?_
          refine g_iald X aM_45 dX12_isHome_42 h (fun v14 h => ?_)
          refine g_icmp_ne (tgt := 65) X dX12_isHome_43 (by decide) h (fun h => ?_) (fun h => ?_)
          · exact g_sub (lv' := [(0, .ref (r 200)), (2, iv x2)]) [0, 2] rfl (hJ10 t3 h)
          · refine g_aload_n X dX12_isHome_46 0 rfl ?_
            refine g_getR X fM_40 rfl dX12_isHome_47 ?_
            refine g_iload_n X dX12_isHome_50 2 rfl ?_
            refine g_iald X aM_40 dX12_isHome_51 h (fun v15 h => ?_)
            refine g_aload_n X dX12_isHome_52 0 rfl ?_
            refine g_getR X fM_46 rfl dX12_isHome_53 ?_
            refine g_iload_n X dX12_isHome_56 2 rfl ?_
            refine g_iald X aM_46 dX12_isHome_57 h (fun v16 h => ?_)
            refine g_icmp_ne (tgt := 65) X dX12_isHome_58 (by decide) h (fun h => ?_) (fun h => ?_)
            · exact g_sub (lv' := [(0, .ref (r 200)), (2, iv x2)]) [0, 2] rfl (hJ10 t3 h)
            · refine g_iconst X dX12_isHome_61 ?_
              refine g_goto (tgt := 66) X dX12_isHome_62 (by decide) ?_
              exact g_sub (lv' := [(0, .ref (r 200)), (2, iv x2)]) [0, 2] rfl (hJ8 1 t3 h)
set_option maxHeartbeats 4000000 in
set_option maxRecDepth 100000 in
theorem c_X12_isHome (l : Launch) (E : cE) (r : Nat → Nat) (N : Nat) (t : St) (z : Int × St) (h : f_X12_isHome N t = some z) : cM l E yX12_isHome cX12_isHome 3 (some .boolean) rm_f_X12_isHome [.ref (r 200)] (gW E r shM t) (gqI E (gW E r shM) z) := by
  unfold f_X12_isHome at h
  refine g_of (w := gW E r shM) (by decide) (Nat.le_of_ble_eq_true rfl) ?_
  intro p e s m below meth c A X
  refine g_sub (lv' := [(0, .ref (r 200))]) [0] rfl ?_
  refine g_iconst X dX12_isHome_0 ?_
  refine g_istore_n (lv' := [(1, iv 1), (0, .ref (r 200))]) X dX12_isHome_1 rfl (by decide) rfl ?_
  refine g_iconst X dX12_isHome_2 ?_
  refine g_istore_n (lv' := [(2, iv 0), (1, iv 1), (0, .ref (r 200))]) X dX12_isHome_3 rfl (by decide) rfl ?_
  refine g_sub (lv' := [(0, .ref (r 200)), (1, iv 1), (2, iv 0)]) [2, 1, 0] rfl (t_f_X12_isHome_L4 X (fun k17 t18 h => ?_) N 1 0 t h)
  · refine g_iload_n X dX12_isHome_73 0 rfl ?_
    exact g_zret X h dX12_isHome_74
abbrev rm_f_X12_isAim : Room := { frames := 0, cells := 0, slots := 0, locals := 0 }
def f_X12_isAim_L4 (K4 : (Int → St → Option (Int × St))) : Nat → Int → Int → St → Option (Int × St)
  | 0, _, _, _ => none
  | n9 + 1, x1, x2, t3 =>
lt1 (t3.1 200 37) fun v5 =>
cmpI x2 v5 (if x2 < v5 then (jn1 (fun (j6 : Int) (t7 : St) => f_X12_isAim_L4 K4 n9 j6 (x2 + 1) t7) fun J8 =>
jn1 (fun (t9 : St) => J8 0 t9) fun J10 =>
cmpI x1 0 (if x1 = 0 then (J10 t3)
else (ixI x2 64 (lt1 (t3.1 38 x2.toNat) fun v11 =>
ixI x2 64 (lt1 (t3.1 47 x2.toNat) fun v12 =>
cmpI v11 v12 (if v11 = v12 then (ixI x2 64 (lt1 (t3.1 39 x2.toNat) fun v13 =>
ixI x2 64 (lt1 (t3.1 48 x2.toNat) fun v14 =>
cmpI v13 v14 (if v13 = v14 then (ixI x2 64 (lt1 (t3.1 40 x2.toNat) fun v15 =>
ixI x2 64 (lt1 (t3.1 49 x2.toNat) fun v16 =>
cmpI v15 v16 (if v15 = v16 then (J8 1 t3)
else (J10 t3)))))
else (J10 t3)))))
else (J10 t3)))))))
else (K4 x1 t3))
def f_X12_isAim (N : Nat) (t : St) : Option (Int × St) :=
f_X12_isAim_L4 (fun (k17 : Int) (t18 : St) => boI k17 (some (k17, t18))) N 1 0 t
set_option maxHeartbeats 4000000 in
set_option maxRecDepth 100000 in
theorem t_f_X12_isAim_L4 {p : Program} {l : Launch} {e : Env} {s : State} {m : MethodId} {args : Array Value} {below : List Frame} {meth : Method} {c : Code} {E : cE} {A : Nat → Prop} {r : Nat → Nat} {mc ms : Nat} {z : Int × St} {N : Nat} {K4 : (Int → St → Option (Int × St))} (X : gX p s m meth c cX12_isAim 3 (some .boolean) yX12_isAim args E A) (hK4 : ∀ (q1 : Int) (t9 : St), K4 q1 t9 = some z → gP p l e rm_f_X12_isAim s m args below meth c E A 3 (MQ below ((gqI E (gW E r shM) z) A) args s mc ms A) (gW E r shM) 73 [(1, iv q1)] [] t9) : ∀ (n9 : Nat) (x1 : Int) (x2 : Int) (t3 : St), f_X12_isAim_L4 K4 n9 x1 x2 t3 = some z → gP p l e rm_f_X12_isAim s m args below meth c E A 3 (MQ below ((gqI E (gW E r shM) z) A) args s mc ms A) (gW E r shM) 4 [(0, .ref (r 200)), (1, iv x1), (2, iv x2)] [] t3 := by
  intro n9
  induction n9 with
  | zero => intro x1 x2 t3 h; cases h
  | succ n9 ih =>
    intro x1 x2 t3 h
    unfold f_X12_isAim_L4 at h
    refine g_iload_n X dX12_isAim_4 2 rfl ?_
    refine g_aload_n X dX12_isAim_5 0 rfl ?_
    refine g_getI X fM_37 rfl dX12_isAim_6 h (fun v5 h => ?_)
    refine g_icmp_ge (tgt := 73) X dX12_isAim_9 (by decide) h (fun h => ?_) (fun h => ?_)
    · exact g_sub (lv' := [(1, iv x1)]) [1] rfl (hK4 x1 t3 h)
    · refine g_iload_n X dX12_isAim_12 1 rfl ?_
      refine g_join (J := fun j9 => ∀ (j6 : Int) (t7 : St), j9 j6 t7 = some z → gP p l e rm_f_X12_isAim s m args below meth c E A 3 (MQ below ((gqI E (gW E r shM) z) A) args s mc ms A) (gW E r shM) 66 [(0, .ref (r 200)), (2, iv x2)] [iv j6] t7) h (fun j6 t7 h => ?_) (fun J8 hJ8 h => ?_)
      · refine g_istore_n (lv' := [(1, iv j6), (0, .ref (r 200)), (2, iv x2)]) X dX12_isAim_66 rfl (by decide) rfl ?_
        refine g_iinc (lv' := [(2, iv (x2 + 1)), (1, iv j6), (0, .ref (r 200))]) X dX12_isAim_67 (k := 2) rfl (by decide) rfl ?_
        refine g_goto (tgt := 4) X dX12_isAim_70 (by decide) ?_
        exact g_sub (lv' := [(0, .ref (r 200)), (1, iv j6), (2, iv (x2 + 1))]) [2, 1, 0] rfl (ih j6 (x2 + 1) t7 h)
      refine g_join (J := fun j9 => ∀ (t9 : St), j9  t9 = some z → gP p l e rm_f_X12_isAim s m args below meth c E A 3 (MQ below ((gqI E (gW E r shM) z) A) args s mc ms A) (gW E r shM) 65 [(0, .ref (r 200)), (2, iv x2)] [] t9) h (fun  t9 h => ?_) (fun J10 hJ10 h => ?_)
      · refine g_iconst X dX12_isAim_65 ?_
        exact g_sub (lv' := [(0, .ref (r 200)), (2, iv x2)]) [0, 1] rfl (hJ8 0 t9 h)
      refine g_if_eq (tgt := 65) X dX12_isAim_13 (by decide) h (fun h => ?_) (fun h => ?_)
      · exact g_sub (lv' := [(0, .ref (r 200)), (2, iv x2)]) [0, 2] rfl (hJ10 t3 h)
      · refine g_aload_n X dX12_isAim_16 0 rfl ?_
        refine g_getR X fM_38 rfl dX12_isAim_17 ?_
        refine g_iload_n X dX12_isAim_20 2 rfl ?_
        refine g_iald X aM_38 dX12_isAim_21 h (fun v11 h => ?_)
        refine g_aload_n X dX12_isAim_22 0 rfl ?_
        refine g_getR X fM_47 rfl dX12_isAim_23 ?_
        refine g_iload_n X dX12_isAim_26 2 rfl ?_
        refine g_iald X aM_47 dX12_isAim_27 h (fun v12 h => ?_)
        refine g_icmp_ne (tgt := 65) X dX12_isAim_28 (by decide) h (fun h => ?_) (fun h => ?_)
        · exact g_sub (lv' := [(0, .ref (r 200)), (2, iv x2)]) [0, 2] rfl (hJ10 t3 h)
        · refine g_aload_n X dX12_isAim_31 0 rfl ?_
          refine g_getR X fM_39 rfl dX12_isAim_32 ?_
          refine g_iload_n X dX12_isAim_35 2 rfl ?_
          refine g_iald X aM_39 dX12_isAim_36 h (fun v13 h => ?_)
          refine g_aload_n X dX12_isAim_37 0 rfl ?_
          refine g_getR X fM_48 rfl dX12_isAim_38 ?_
          refine g_iload_n X dX12_isAim_41 2 rfl ?_
          refine g_iald X aM_48 dX12_isAim_42 h (fun v14 h => ?_)
          refine g_icmp_ne (tgt := 65) X dX12_isAim_43 (by decide) h (fun h => ?_) (fun h => ?_)
          · exact g_sub (lv' := [(0, .ref (r 200)), (2, iv x2)]) [0, 2] rfl (hJ10 t3 h)
          · refine g_aload_n X dX12_isAim_46 0 rfl ?_
            refine g_getR X fM_40 rfl dX12_isAim_47 ?_
            refine g_iload_n X dX12_isAim_50 2 rfl ?_
            refine g_iald X aM_40 dX12_isAim_51 h (fun v15 h => ?_)
            refine g_aload_n X dX12_isAim_52 0 rfl ?_
            refine g_getR X fM_49 rfl dX12_isAim_53 ?_
            refine g_iload_n X dX12_isAim_56 2 rfl ?_
            refine g_iald X aM_49 dX12_isAim_57 h (fun v16 h => ?_)
            refine g_icmp_ne (tgt := 65) X dX12_isAim_58 (by decide) h (fun h => ?_) (fun h => ?_)
            · exact g_sub (lv' := [(0, .ref (r 200)), (2, iv x2)]) [0, 2] rfl (hJ10 t3 h)
            · refine g_iconst X dX12_isAim_61 ?_
              refine g_goto (tgt := 66) X dX12_isAim_62 (by decide) ?_
              exact g_sub (lv' := [(0, .ref (r 200)), (2, iv x2)]) [0, 2] rfl (hJ8 1 t3 h)
set_option maxHeartbeats 4000000 in
set_option maxRecDepth 100000 in
theorem c_X12_isAim (l : Launch) (E : cE) (r : Nat → Nat) (N : Nat) (t : St) (z : Int × St) (h : f_X12_isAim N t = some z) : cM l E yX12_isAim cX12_isAim 3 (some .boolean) rm_f_X12_isAim [.ref (r 200)] (gW E r shM t) (gqI E (gW E r shM) z) := by
  unfold f_X12_isAim at h
  refine g_of (w := gW E r shM) (by decide) (Nat.le_of_ble_eq_true rfl) ?_
  intro p e s m below meth c A X
  refine g_sub (lv' := [(0, .ref (r 200))]) [0] rfl ?_
  refine g_iconst X dX12_isAim_0 ?_
  refine g_istore_n (lv' := [(1, iv 1), (0, .ref (r 200))]) X dX12_isAim_1 rfl (by decide) rfl ?_
  refine g_iconst X dX12_isAim_2 ?_
  refine g_istore_n (lv' := [(2, iv 0), (1, iv 1), (0, .ref (r 200))]) X dX12_isAim_3 rfl (by decide) rfl ?_
  refine g_sub (lv' := [(0, .ref (r 200)), (1, iv 1), (2, iv 0)]) [2, 1, 0] rfl (t_f_X12_isAim_L4 X (fun k17 t18 h => ?_) N 1 0 t h)
  · refine g_iload_n X dX12_isAim_73 0 rfl ?_
    exact g_zret X h dX12_isAim_74
