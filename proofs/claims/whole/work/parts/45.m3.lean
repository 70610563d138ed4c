theorem dX12_rank_0 : decode cX12_rank 0 = .ok (.iconst 0, 1) := by decide +kernel
theorem dX12_rank_1 : decode cX12_rank 1 = .ok (.istore_n 3, 1) := by decide +kernel
theorem dX12_rank_2 : decode cX12_rank 2 = .ok (.iconst 0, 1) := by decide +kernel
theorem dX12_rank_3 : decode cX12_rank 3 = .ok (.istore 4, 2) := by decide +kernel
theorem dX12_rank_5 : decode cX12_rank 5 = .ok (.iload 4, 2) := by decide +kernel
theorem dX12_rank_7 : decode cX12_rank 7 = .ok (.aload_n 0, 1) := by decide +kernel
theorem dX12_rank_8 : decode cX12_rank 8 = .ok (.getfield 231, 3) := by decide +kernel
theorem dX12_rank_11 : decode cX12_rank 11 = .ok (.if_icmp .ge 76, 3) := by decide +kernel
theorem dX12_rank_14 : decode cX12_rank 14 = .ok (.aload_n 1, 1) := by decide +kernel
theorem dX12_rank_15 : decode cX12_rank 15 = .ok (.iload 4, 2) := by decide +kernel
theorem dX12_rank_17 : decode cX12_rank 17 = .ok (.iaload, 1) := by decide +kernel
theorem dX12_rank_18 : decode cX12_rank 18 = .ok (.iload_n 2, 1) := by decide +kernel
theorem dX12_rank_19 : decode cX12_rank 19 = .ok (.if_icmp .ge 7, 3) := by decide +kernel
theorem dX12_rank_22 : decode cX12_rank 22 = .ok (.iconst 1, 1) := by decide +kernel
theorem dX12_rank_23 : decode cX12_rank 23 = .ok (.goto 4, 3) := by decide +kernel
theorem dX12_rank_26 : decode cX12_rank 26 = .ok (.iconst 0, 1) := by decide +kernel
theorem dX12_rank_27 : decode cX12_rank 27 = .ok (.istore 5, 2) := by decide +kernel
theorem dX12_rank_29 : decode cX12_rank 29 = .ok (.iconst 0, 1) := by decide +kernel
theorem dX12_rank_30 : decode cX12_rank 30 = .ok (.istore 6, 2) := by decide +kernel
theorem dX12_rank_32 : decode cX12_rank 32 = .ok (.iload 6, 2) := by decide +kernel
theorem dX12_rank_34 : decode cX12_rank 34 = .ok (.iload 4, 2) := by decide +kernel
theorem dX12_rank_36 : decode cX12_rank 36 = .ok (.if_icmp .ge 32, 3) := by decide +kernel
theorem dX12_rank_39 : decode cX12_rank 39 = .ok (.iload 5, 2) := by decide +kernel
theorem dX12_rank_41 : decode cX12_rank 41 = .ok (.ifCond .eq 27, 3) := by decide +kernel
theorem dX12_rank_44 : decode cX12_rank 44 = .ok (.aload_n 1, 1) := by decide +kernel
theorem dX12_rank_45 : decode cX12_rank 45 = .ok (.iload 6, 2) := by decide +kernel
theorem dX12_rank_47 : decode cX12_rank 47 = .ok (.iaload, 1) := by decide +kernel
theorem dX12_rank_48 : decode cX12_rank 48 = .ok (.aload_n 1, 1) := by decide +kernel
theorem dX12_rank_49 : decode cX12_rank 49 = .ok (.iload 4, 2) := by decide +kernel
theorem dX12_rank_51 : decode cX12_rank 51 = .ok (.iaload, 1) := by decide +kernel
theorem dX12_rank_52 : decode cX12_rank 52 = .ok (.if_icmp .eq 7, 3) := by decide +kernel
theorem dX12_rank_55 : decode cX12_rank 55 = .ok (.iconst 1, 1) := by decide +kernel
theorem dX12_rank_56 : decode cX12_rank 56 = .ok (.goto 4, 3) := by decide +kernel
theorem dX12_rank_59 : decode cX12_rank 59 = .ok (.iconst 0, 1) := by decide +kernel
theorem dX12_rank_60 : decode cX12_rank 60 = .ok (.istore 5, 2) := by decide +kernel
theorem dX12_rank_62 : decode cX12_rank 62 = .ok (.iinc 6 1, 3) := by decide +kernel
theorem dX12_rank_65 : decode cX12_rank 65 = .ok (.goto (-33), 3) := by decide +kernel
theorem dX12_rank_68 : decode cX12_rank 68 = .ok (.iload_n 3, 1) := by decide +kernel
theorem dX12_rank_69 : decode cX12_rank 69 = .ok (.iload 5, 2) := by decide +kernel
theorem dX12_rank_71 : decode cX12_rank 71 = .ok (.ifCond .eq 7, 3) := by decide +kernel
theorem dX12_rank_74 : decode cX12_rank 74 = .ok (.iconst 1, 1) := by decide +kernel
theorem dX12_rank_75 : decode cX12_rank 75 = .ok (.goto 4, 3) := by decide +kernel
theorem dX12_rank_78 : decode cX12_rank 78 = .ok (.iconst 0, 1) := by decide +kernel
theorem dX12_rank_79 : decode cX12_rank 79 = .ok (.iadd, 1) := by decide +kernel
theorem dX12_rank_80 : decode cX12_rank 80 = .ok (.istore_n 3, 1) := by decide +kernel
theorem dX12_rank_81 : decode cX12_rank 81 = .ok (.iinc 4 1, 3) := by decide +kernel
theorem dX12_rank_84 : decode cX12_rank 84 = .ok (.goto (-79), 3) := by decide +kernel
theorem dX12_rank_87 : decode cX12_rank 87 = .ok (.iload_n 3, 1) := by decide +kernel
theorem dX12_rank_88 : decode cX12_rank 88 = .ok (.ireturn, 1) := by decide +kernel
abbrev rm_f_X12_rank_76 : Room := { frames := 0, cells := 0, slots := 0, locals := 0 }
def f_X12_rank_76_L32 (K17 : (Int → St → Option (Int × St))) (y13 : Int) : Nat → Int → Int → St → Option (Int × St)
  | 0, _, _, _ => none
  | n9 + 1, x14, x15, t16 =>
    cmpI x15 y13 (if x15 < y13 then (cmpI x14 0 (if x14 = 0 then (K17 x14 t16)
    else (ixI x15 64 (lt1 (t16.1 76 x15.toNat) fun v18 =>
    ixI y13 64 (lt1 (t16.1 76 y13.toNat) fun v19 =>
    jn1 (fun (j20 : Int) (t21 : St) => f_X12_rank_76_L32 K17 y13 n9 j20 (x15 + 1) t21) fun J22 =>
    cmpI v18 v19 (if v18 = v19 then (J22 0 t16)
    else (J22 1 t16)))))))
    else (K17 x14 t16))
def f_X12_rank_76_L5 (N : Nat) (K5 : (Int → St → Option (Int × St))) (y1 : Int) : Nat → Int → Int → St → Option (Int × St)
  | 0, _, _, _ => none
  | n9 + 1, x2, x3, t4 =>
    lt1 (t4.1 200 37) fun v6 =>
    cmpI x3 v6 (if x3 < v6 then (ixI x3 64 (lt1 (t4.1 76 x3.toNat) fun v7 =>
    jn1 (fun (j8 : Int) (t9 : St) => f_X12_rank_76_L32 (fun (k23 : Int) (t24 : St) => jn1 (fun (j25 : Int) (t26 : St) => f_X12_rank_76_L5 N K5 y1 n9 (x2 + j25) (x3 + 1) t26) fun J27 =>
    cmpI k23 0 (if k23 = 0 then (J27 0 t24)
    else (J27 1 t24))) x3 N j8 0 t9) fun J10 =>
    cmpI v7 y1 (if v7 < y1 then (J10 1 t4)
    else (J10 0 t4))))
    else (K5 x2 t4))
def f_X12_rank_76 (N : Nat) (a1 : Int) (t : St) : Option (Int × St) :=
    f_X12_rank_76_L5 N (fun (k28 : Int) (t29 : St) => some (k28, t29)) a1 N 0 0 t
set_option maxHeartbeats 4000000 in
set_option maxRecDepth 100000 in
theorem t_f_X12_rank_76_L32 {p : Program} {l : Launch} {e : Env} {s : State} {m : MethodId} {args : Array Value} {below : List Frame} {meth : Method} {c : Code} {E : cE} {A : Nat → Prop} {r : Nat → Nat} {mc ms : Nat} {z : Int × St} {K17 : (Int → St → Option (Int × St))} {y11 : Int} {y12 : Int} {y13 : Int} (X : gX p s m meth c cX12_rank 7 (some .int) yX12_rank args E A) (hK17 : ∀ (q5 : Int) (t9 : St), K17 q5 t9 = some z → gP p l e rm_f_X12_rank_76 s m args below meth c E A 7 (MQ below ((gqI E (gW E r shM) z) A) args s mc ms A) (gW E r shM) 68 [(0, .ref (r 200)), (1, .ref (r 76)), (2, iv y11), (3, iv y12), (4, iv y13), (5, iv q5)] [] t9) : ∀ (n9 : Nat) (x14 : Int) (x15 : Int) (t16 : St), f_X12_rank_76_L32 K17 y13 n9 x14 x15 t16 = some z → gP p l e rm_f_X12_rank_76 s m args below meth c E A 7 (MQ below ((gqI E (gW E r shM) z) A) args s mc ms A) (gW E r shM) 32 [(0, .ref (r 200)), (1, .ref (r 76)), (2, iv y11), (3, iv y12), (4, iv y13), (5, iv x14), (6, iv x15)] [] t16 := by
  intro n9
  induction n9 with
  | zero => intro x14 x15 t16 h; cases h
  | succ n9 ih =>
    intro x14 x15 t16 h
    unfold f_X12_rank_76_L32 at h
    refine g_iload X dX12_rank_32 6 rfl ?_
    refine g_iload X dX12_rank_34 4 rfl ?_
    refine g_icmp_ge (tgt := 68) X dX12_rank_36 (by decide) h (fun h => ?_) (fun h => ?_)
    · exact g_sub (lv' := [(0, .ref (r 200)), (1, .ref (r 76)), (2, iv y11), (3, iv y12), (4, iv y13), (5, iv x14)]) [0, 1, 2, 3, 4, 5] rfl (hK17 x14 t16 h)
    · refine g_iload X dX12_rank_39 5 rfl ?_
      refine g_if_eq (tgt := 68) X dX12_rank_41 (by decide) h (fun h => ?_) (fun h => ?_)
      · exact g_sub (lv' := [(0, .ref (r 200)), (1, .ref (r 76)), (2, iv y11), (3, iv y12), (4, iv y13), (5, iv x14)]) [0, 1, 2, 3, 4, 5] rfl (hK17 x14 t16 h)
      · refine g_aload_n X dX12_rank_44 1 rfl ?_
        refine g_iload X dX12_rank_45 6 rfl ?_
        refine g_iald X aM_76 dX12_rank_47 h (fun v18 h => ?_)
        refine g_aload_n X dX12_rank_48 1 rfl ?_
        refine g_iload X dX12_rank_49 4 rfl ?_
        refine g_iald X aM_76 dX12_rank_51 h (fun v19 h => ?_)
        refine g_join (J := fun jj => ∀ (j20 : Int) (t21 : St), jj j20 t21 = some z → gP p l e rm_f_X12_rank_76 s m args below meth c E A 7 (MQ below ((gqI E (gW E r shM) z) A) args s mc ms A) (gW E r shM) 60 [(0, .ref (r 200)), (1, .ref (r 76)), (2, iv y11), (3, iv y12), (4, iv y13), (6, iv x15)] [iv j20] t21) h (fun j20 t21 h => ?_) (fun J22 hJ22 h => ?_)
        · refine g_istore (lv' := [(5, iv j20), (0, .ref (r 200)), (1, .ref (r 76)), (2, iv y11), (3, iv y12), (4, iv y13), (6, iv x15)]) X dX12_rank_60 (by decide) rfl ?_
          refine g_iinc (lv' := [(6, iv (x15 + 1)), (5, iv j20), (0, .ref (r 200)), (1, .ref (r 76)), (2, iv y11), (3, iv y12), (4, iv y13)]) X dX12_rank_62 (k := 6) rfl (by decide) rfl ?_
          refine g_goto (tgt := 32) X dX12_rank_65 (by decide) ?_
          exact g_sub (lv' := [(0, .ref (r 200)), (1, .ref (r 76)), (2, iv y11), (3, iv y12), (4, iv y13), (5, iv j20), (6, iv (x15 + 1))]) [2, 3, 4, 5, 6, 1, 0] rfl (ih j20 (x15 + 1) t21 h)
        refine g_icmp_eq (tgt := 59) X dX12_rank_52 (by decide) h (fun h => ?_) (fun h => ?_)
        · refine g_iconst X dX12_rank_59 ?_
          exact g_sub (lv' := [(0, .ref (r 200)), (1, .ref (r 76)), (2, iv y11), (3, iv y12), (4, iv y13), (6, iv x15)]) [0, 1, 2, 3, 4, 6] rfl (hJ22 0 t16 h)
        · refine g_iconst X dX12_rank_55 ?_
          refine g_goto (tgt := 60) X dX12_rank_56 (by decide) ?_
          exact g_sub (lv' := [(0, .ref (r 200)), (1, .ref (r 76)), (2, iv y11), (3, iv y12), (4, iv y13), (6, iv x15)]) [0, 1, 2, 3, 4, 6] rfl (hJ22 1 t16 h)
set_option maxHeartbeats 4000000 in
set_option maxRecDepth 100000 in
theorem t_f_X12_rank_76_L5 {p : Program} {l : Launch} {e : Env} {s : State} {m : MethodId} {args : Array Value} {below : List Frame} {meth : Method} {c : Code} {E : cE} {A : Nat → Prop} {r : Nat → Nat} {mc ms : Nat} {z : Int × St} {N : Nat} {K5 : (Int → St → Option (Int × St))} {y1 : Int} (X : gX p s m meth c cX12_rank 7 (some .int) yX12_rank args E A) (hK5 : ∀ (q3 : Int) (t9 : St), K5 q3 t9 = some z → gP p l e rm_f_X12_rank_76 s m args below meth c E A 7 (MQ below ((gqI E (gW E r shM) z) A) args s mc ms A) (gW E r shM) 87 [(3, iv q3)] [] t9) : ∀ (n9 : Nat) (x2 : Int) (x3 : Int) (t4 : St), f_X12_rank_76_L5 N K5 y1 n9 x2 x3 t4 = some z → gP p l e rm_f_X12_rank_76 s m args below meth c E A 7 (MQ below ((gqI E (gW E r shM) z) A) args s mc ms A) (gW E r shM) 5 [(0, .ref (r 200)), (1, .ref (r 76)), (2, iv y1), (3, iv x2), (4, iv x3)] [] t4 := by
  intro n9
  induction n9 with
  | zero => intro x2 x3 t4 h; cases h
  | succ n9 ih =>
    intro x2 x3 t4 h
    unfold f_X12_rank_76_L5 at h
    refine g_iload X dX12_rank_5 4 rfl ?_
    refine g_aload_n X dX12_rank_7 0 rfl ?_
    refine g_getI X fM_37 rfl dX12_rank_8 h (fun v6 h => ?_)
    refine g_icmp_ge (tgt := 87) X dX12_rank_11 (by decide) h (fun h => ?_) (fun h => ?_)
    · exact g_sub (lv' := [(3, iv x2)]) [3] rfl (hK5 x2 t4 h)
    · refine g_aload_n X dX12_rank_14 1 rfl ?_
      refine g_iload X dX12_rank_15 4 rfl ?_
      refine g_iald X aM_76 dX12_rank_17 h (fun v7 h => ?_)
      refine g_iload_n X dX12_rank_18 2 rfl ?_
      refine g_join (J := fun jj => ∀ (j8 : Int) (t9 : St), jj j8 t9 = some z → gP p l e rm_f_X12_rank_76 s m args below meth c E A 7 (MQ below ((gqI E (gW E r shM) z) A) args s mc ms A) (gW E r shM) 27 [(0, .ref (r 200)), (1, .ref (r 76)), (2, iv y1), (3, iv x2), (4, iv x3)] [iv j8] t9) h (fun j8 t9 h => ?_) (fun J10 hJ10 h => ?_)
      · refine g_istore (lv' := [(5, iv j8), (0, .ref (r 200)), (1, .ref (r 76)), (2, iv y1), (3, iv x2), (4, iv x3)]) X dX12_rank_27 (by decide) rfl ?_
        refine g_iconst X dX12_rank_29 ?_
        refine g_istore (lv' := [(6, iv 0), (5, iv j8), (0, .ref (r 200)), (1, .ref (r 76)), (2, iv y1), (3, iv x2), (4, iv x3)]) X dX12_rank_30 (by decide) rfl ?_
        refine g_sub (lv' := [(0, .ref (r 200)), (1, .ref (r 76)), (2, iv y1), (3, iv x2), (4, iv x3), (5, iv j8), (6, iv 0)]) [2, 3, 4, 5, 6, 1, 0] rfl (t_f_X12_rank_76_L32 X (fun k23 t24 h => ?_) N j8 0 t9 h)
        · refine g_iload_n X dX12_rank_68 3 rfl ?_
          refine g_iload X dX12_rank_69 5 rfl ?_
          refine g_join (J := fun jj => ∀ (j25 : Int) (t26 : St), jj j25 t26 = some z → gP p l e rm_f_X12_rank_76 s m args below meth c E A 7 (MQ below ((gqI E (gW E r shM) z) A) args s mc ms A) (gW E r shM) 79 [(0, .ref (r 200)), (1, .ref (r 76)), (2, iv y1), (4, iv x3)] [iv j25, iv x2] t26) h (fun j25 t26 h => ?_) (fun J27 hJ27 h => ?_)
          · refine g_iadd X dX12_rank_79 ?_
            refine g_istore_n (lv' := [(3, iv (x2 + j25)), (0, .ref (r 200)), (1, .ref (r 76)), (2, iv y1), (4, iv x3)]) X dX12_rank_80 rfl (by decide) rfl ?_
            refine g_iinc (lv' := [(4, iv (x3 + 1)), (3, iv (x2 + j25)), (0, .ref (r 200)), (1, .ref (r 76)), (2, iv y1)]) X dX12_rank_81 (k := 4) rfl (by decide) rfl ?_
            refine g_goto (tgt := 5) X dX12_rank_84 (by decide) ?_
            exact g_sub (lv' := [(0, .ref (r 200)), (1, .ref (r 76)), (2, iv y1), (3, iv (x2 + j25)), (4, iv (x3 + 1))]) [2, 3, 4, 1, 0] rfl (ih (x2 + j25) (x3 + 1) t26 h)
          refine g_if_eq (tgt := 78) X dX12_rank_71 (by decide) h (fun h => ?_) (fun h => ?_)
          · refine g_iconst X dX12_rank_78 ?_
            exact g_sub (lv' := [(0, .ref (r 200)), (1, .ref (r 76)), (2, iv y1), (4, iv x3)]) [0, 1, 2, 4] rfl (hJ27 0 t24 h)
          · refine g_iconst X dX12_rank_74 ?_
            refine g_goto (tgt := 79) X dX12_rank_75 (by decide) ?_
            exact g_sub (lv' := [(0, .ref (r 200)), (1, .ref (r 76)), (2, iv y1), (4, iv x3)]) [0, 1, 2, 4] rfl (hJ27 1 t24 h)
      refine g_icmp_ge (tgt := 26) X dX12_rank_19 (by decide) h (fun h => ?_) (fun h => ?_)
      · refine g_iconst X dX12_rank_26 ?_
        exact g_sub (lv' := [(0, .ref (r 200)), (1, .ref (r 76)), (2, iv y1), (3, iv x2), (4, iv x3)]) [0, 1, 2, 3, 4] rfl (hJ10 0 t4 h)
      · refine g_iconst X dX12_rank_22 ?_
        refine g_goto (tgt := 27) X dX12_rank_23 (by decide) ?_
        exact g_sub (lv' := [(0, .ref (r 200)), (1, .ref (r 76)), (2, iv y1), (3, iv x2), (4, iv x3)]) [0, 1, 2, 3, 4] rfl (hJ10 1 t4 h)
set_option maxHeartbeats 4000000 in
set_option maxRecDepth 100000 in
theorem b_f_X12_rank_76 {p : Program} {l : Launch} {e : Env} {s : State} {m : MethodId} {args : Array Value} {below : List Frame} {meth : Method} {c : Code} {E : cE} {A : Nat → Prop} {r : Nat → Nat} {mc ms : Nat} {z : Int × St} {N : Nat} {a1 : Int} {t : St} (X : gX p s m meth c cX12_rank 7 (some .int) yX12_rank args E A) (h : f_X12_rank_76 N a1 t = some z) : gP p l e rm_f_X12_rank_76 s m args below meth c E A 7 (MQ below ((gqI E (gW E r shM) z) A) args s mc ms A) (gW E r shM) 0 [(0, .ref (r 200)), (1, .ref (r 76)), (2, iv a1)] [] t := by
  unfold f_X12_rank_76 at h
  refine g_iconst X dX12_rank_0 ?_
  refine g_istore_n (lv' := [(3, iv 0), (0, .ref (r 200)), (1, .ref (r 76)), (2, iv a1)]) X dX12_rank_1 rfl (by decide) rfl ?_
  refine g_iconst X dX12_rank_2 ?_
  refine g_istore (lv' := [(4, iv 0), (3, iv 0), (0, .ref (r 200)), (1, .ref (r 76)), (2, iv a1)]) X dX12_rank_3 (by decide) rfl ?_
  refine g_sub (lv' := [(0, .ref (r 200)), (1, .ref (r 76)), (2, iv a1), (3, iv 0), (4, iv 0)]) [2, 3, 4, 1, 0] rfl (t_f_X12_rank_76_L5 X (fun k28 t29 h => ?_) N 0 0 t h)
  · refine g_iload_n X dX12_rank_87 0 rfl ?_
    exact g_iret X h dX12_rank_88
set_option maxHeartbeats 4000000 in
set_option maxRecDepth 100000 in
theorem cp_X12_rank_76 (l : Launch) (E : cE) (r : Nat → Nat) (N : Nat) (a1 : Int) (t : St) (z : Int × St) (h : f_X12_rank_76 N a1 t = some z) : cM l E yX12_rank cX12_rank 7 (some .int) rm_f_X12_rank_76 [.ref (r 200), .ref (r 76), iv a1] (gW E r shM t) (gqI E (gW E r shM) z) := by
  refine g_of (w := gW E r shM) (by decide) (Nat.le_of_ble_eq_true rfl) ?_
  intro p e s m below meth c A X
  exact g_sub (lv' := [(0, .ref (r 200)), (1, .ref (r 76)), (2, iv a1)]) [0, 1, 2] rfl (b_f_X12_rank_76 X h)
theorem yy_X12_rank : cY yX12_rank cX12_rank 7 (some .int) 2 := ⟨wdK_X12_rank, wdZ_RX12, by decide +kernel⟩
theorem yi_X12_rank : cYi yX12_rank := ⟨wdN_X12_rank, wdS_X12_rank⟩
abbrev rm_f_X12_rank_77 : Room := { frames := 0, cells := 0, slots := 0, locals := 0 }
def f_X12_rank_77_L32 (K17 : (Int → St → Option (Int × St))) (y13 : Int) : Nat → Int → Int → St → Option (Int × St)
  | 0, _, _, _ => none
  | n9 + 1, x14, x15, t16 =>
    cmpI x15 y13 (if x15 < y13 then (cmpI x14 0 (if x14 = 0 then (K17 x14 t16)
    else (ixI x15 64 (lt1 (t16.1 77 x15.toNat) fun v18 =>
    ixI y13 64 (lt1 (t16.1 77 y13.toNat) fun v19 =>
    jn1 (fun (j20 : Int) (t21 : St) => f_X12_rank_77_L32 K17 y13 n9 j20 (x15 + 1) t21) fun J22 =>
    cmpI v18 v19 (if v18 = v19 then (J22 0 t16)
    else (J22 1 t16)))))))
    else (K17 x14 t16))
def f_X12_rank_77_L5 (N : Nat) (K5 : (Int → St → Option (Int × St))) (y1 : Int) : Nat → Int → Int → St → Option (Int × St)
  | 0, _, _, _ => none
  | n9 + 1, x2, x3, t4 =>
    lt1 (t4.1 200 37) fun v6 =>
    cmpI x3 v6 (if x3 < v6 then (ixI x3 64 (lt1 (t4.1 77 x3.toNat) fun v7 =>
    jn1 (fun (j8 : Int) (t9 : St) => f_X12_rank_77_L32 (fun (k23 : Int) (t24 : St) => jn1 (fun (j25 : Int) (t26 : St) => f_X12_rank_77_L5 N K5 y1 n9 (x2 + j25) (x3 + 1) t26) fun J27 =>
    cmpI k23 0 (if k23 = 0 then (J27 0 t24)
    else (J27 1 t24))) x3 N j8 0 t9) fun J10 =>
    cmpI v7 y1 (if v7 < y1 then (J10 1 t4)
    else (J10 0 t4))))
    else (K5 x2 t4))
def f_X12_rank_77 (N : Nat) (a1 : Int) (t : St) : Option (Int × St) :=
    f_X12_rank_77_L5 N (fun (k28 : Int) (t29 : St) => some (k28, t29)) a1 N 0 0 t
set_option maxHeartbeats 4000000 in
set_option maxRecDepth 100000 in
theorem t_f_X12_rank_77_L32 {p : Program} {l : Launch} {e : Env} {s : State} {m : MethodId} {args : Array Value} {below : List Frame} {meth : Method} {c : Code} {E : cE} {A : Nat → Prop} {r : Nat → Nat} {mc ms : Nat} {z : Int × St} {K17 : (Int → St → Option (Int × St))} {y11 : Int} {y12 : Int} {y13 : Int} (X : gX p s m meth c cX12_rank 7 (some .int) yX12_rank args E A) (hK17 : ∀ (q5 : Int) (t9 : St), K17 q5 t9 = some z → gP p l e rm_f_X12_rank_77 s m args below meth c E A 7 (MQ below ((gqI E (gW E r shM) z) A) args s mc ms A) (gW E r shM) 68 [(0, .ref (r 200)), (1, .ref (r 77)), (2, iv y11), (3, iv y12), (4, iv y13), (5, iv q5)] [] t9) : ∀ (n9 : Nat) (x14 : Int) (x15 : Int) (t16 : St), f_X12_rank_77_L32 K17 y13 n9 x14 x15 t16 = some z → gP p l e rm_f_X12_rank_77 s m args below meth c E A 7 (MQ below ((gqI E (gW E r shM) z) A) args s mc ms A) (gW E r shM) 32 [(0, .ref (r 200)), (1, .ref (r 77)), (2, iv y11), (3, iv y12), (4, iv y13), (5, iv x14), (6, iv x15)] [] t16 := by
  intro n9
  induction n9 with
  | zero => intro x14 x15 t16 h; cases h
  | succ n9 ih =>
    intro x14 x15 t16 h
    unfold f_X12_rank_77_L32 at h
    refine g_iload X dX12_rank_32 6 rfl ?_
    refine g_iload X dX12_rank_34 4 rfl ?_
    refine g_icmp_ge (tgt := 68) X dX12_rank_36 (by decide) h (fun h => ?_) (fun h => ?_)
    · exact g_sub (lv' := [(0, .ref (r 200)), (1, .ref (r 77)), (2, iv y11), (3, iv y12), (4, iv y13), (5, iv x14)]) [0, 1, 2, 3, 4, 5] rfl (hK17 x14 t16 h)
    · refine g_iload X dX12_rank_39 5 rfl ?_
      refine g_if_eq (tgt := 68) X dX12_rank_41 (by decide) h (fun h => ?_) (fun h => ?_)
      · exact g_sub (lv' := [(0, .ref (r 200)), (1, .ref (r 77)), (2, iv y11), (3, iv y12), (4, iv y13), (5, iv x14)]) [0, 1, 2, 3, 4, 5] rfl (hK17 x14 t16 h)
      · refine g_aload_n X dX12_rank_44 1 rfl ?_
        refine g_iload X dX12_rank_45 6 rfl ?_
        refine g_iald X aM_77 dX12_rank_47 h (fun v18 h => ?_)
        refine g_aload_n X dX12_rank_48 1 rfl ?_
        refine g_iload X dX12_rank_49 4 rfl ?_
        refine g_iald X aM_77 dX12_rank_51 h (fun v19 h => ?_)
        refine g_join (J := fun jj => ∀ (j20 : Int) (t21 : St), jj j20 t21 = some z → gP p l e rm_f_X12_rank_77 s m args below meth c E A 7 (MQ below ((gqI E (gW E r shM) z) A) args s mc ms A) (gW E r shM) 60 [(0, .ref (r 200)), (1, .ref (r 77)), (2, iv y11), (3, iv y12), (4, iv y13), (6, iv x15)] [iv j20] t21) h (fun j20 t21 h => ?_) (fun J22 hJ22 h => ?_)
        · refine g_istore (lv' := [(5, iv j20), (0, .ref (r 200)), (1, .ref (r 77)), (2, iv y11), (3, iv y12), (4, iv y13), (6, iv x15)]) X dX12_rank_60 (by decide) rfl ?_
          refine g_iinc (lv' := [(6, iv (x15 + 1)), (5, iv j20), (0, .ref (r 200)), (1, .ref (r 77)), (2, iv y11), (3, iv y12), (4, iv y13)]) X dX12_rank_62 (k := 6) rfl (by decide) rfl ?_
          refine g_goto (tgt := 32) X dX12_rank_65 (by decide) ?_
          exact g_sub (lv' := [(0, .ref (r 200)), (1, .ref (r 77)), (2, iv y11), (3, iv y12), (4, iv y13), (5, iv j20), (6, iv (x15 + 1))]) [2, 3, 4, 5, 6, 1, 0] rfl (ih j20 (x15 + 1) t21 h)
        refine g_icmp_eq (tgt := 59) X dX12_rank_52 (by decide) h (fun h => ?_) (fun h => ?_)
        · refine g_iconst X dX12_rank_59 ?_
          exact g_sub (lv' := [(0, .ref (r 200)), (1, .ref (r 77)), (2, iv y11), (3, iv y12), (4, iv y13), (6, iv x15)]) [0, 1, 2, 3, 4, 6] rfl (hJ22 0 t16 h)
        · refine g_iconst X dX12_rank_55 ?_
          refine g_goto (tgt := 60) X dX12_rank_56 (by decide) ?_
          exact g_sub (lv' := [(0, .ref (r 200)), (1, .ref (r 77)), (2, iv y11), (3, iv y12), (4, iv y13), (6, iv x15)]) [0, 1, 2, 3, 4, 6] rfl (hJ22 1 t16 h)
set_option maxHeartbeats 4000000 in
set_option maxRecDepth 100000 in
theorem t_f_X12_rank_77_L5 {p : Program} {l : Launch} {e : Env} {s : State} {m : MethodId} {args : Array Value} {below : List Frame} {meth : Method} {c : Code} {E : cE} {A : Nat → Prop} {r : Nat → Nat} {mc ms : Nat} {z : Int × St} {N : Nat} {K5 : (Int → St → Option (Int × St))} {y1 : Int} (X : gX p s m meth c cX12_rank 7 (some .int) yX12_rank args E A) (hK5 : ∀ (q3 : Int) (t9 : St), K5 q3 t9 = some z → gP p l e rm_f_X12_rank_77 s m args below meth c E A 7 (MQ below ((gqI E (gW E r shM) z) A) args s mc ms A) (gW E r shM) 87 [(3, iv q3)] [] t9) : ∀ (n9 : Nat) (x2 : Int) (x3 : Int) (t4 : St), f_X12_rank_77_L5 N K5 y1 n9 x2 x3 t4 = some z → gP p l e rm_f_X12_rank_77 s m args below meth c E A 7 (MQ below ((gqI E (gW E r shM) z) A) args s mc ms A) (gW E r shM) 5 [(0, .ref (r 200)), (1, .ref (r 77)), (2, iv y1), (3, iv x2), (4, iv x3)] [] t4 := by
  intro n9
  induction n9 with
  | zero => intro x2 x3 t4 h; cases h
  | succ n9 ih =>
    intro x2 x3 t4 h
    unfold f_X12_rank_77_L5 at h
    refine g_iload X dX12_rank_5 4 rfl ?_
    refine g_aload_n X dX12_rank_7 0 rfl ?_
    refine g_getI X fM_37 rfl dX12_rank_8 h (fun v6 h => ?_)
    refine g_icmp_ge (tgt := 87) X dX12_rank_11 (by decide) h (fun h => ?_) (fun h => ?_)
    · exact g_sub (lv' := [(3, iv x2)]) [3] rfl (hK5 x2 t4 h)
    · refine g_aload_n X dX12_rank_14 1 rfl ?_
      refine g_iload X dX12_rank_15 4 rfl ?_
      refine g_iald X aM_77 dX12_rank_17 h (fun v7 h => ?_)
      refine g_iload_n X dX12_rank_18 2 rfl ?_
      refine g_join (J := fun jj => ∀ (j8 : Int) (t9 : St), jj j8 t9 = some z → gP p l e rm_f_X12_rank_77 s m args below meth c E A 7 (MQ below ((gqI E (gW E r shM) z) A) args s mc ms A) (gW E r shM) 27 [(0, .ref (r 200)), (1, .ref (r 77)), (2, iv y1), (3, iv x2), (4, iv x3)] [iv j8] t9) h (fun j8 t9 h => ?_) (fun J10 hJ10 h => ?_)
      · refine g_istore (lv' := [(5, iv j8), (0, .ref (r 200)), (1, .ref (r 77)), (2, iv y1), (3, iv x2), (4, iv x3)]) X dX12_rank_27 (by decide) rfl ?_
        refine g_iconst X dX12_rank_29 ?_
        refine g_istore (lv' := [(6, iv 0), (5, iv j8), (0, .ref (r 200)), (1, .ref (r 77)), (2, iv y1), (3, iv x2), (4, iv x3)]) X dX12_rank_30 (by decide) rfl ?_
        refine g_sub (lv' := [(0, .ref (r 200)), (1, .ref (r 77)), (2, iv y1), (3, iv x2), (4, iv x3), (5, iv j8), (6, iv 0)]) [2, 3, 4, 5, 6, 1, 0] rfl (t_f_X12_rank_77_L32 X (fun k23 t24 h => ?_) N j8 0 t9 h)
        · refine g_iload_n X dX12_rank_68 3 rfl ?_
          refine g_iload X dX12_rank_69 5 rfl ?_
          refine g_join (J := fun jj => ∀ (j25 : Int) (t26 : St), jj j25 t26 = some z → gP p l e rm_f_X12_rank_77 s m args below meth c E A 7 (MQ below ((gqI E (gW E r shM) z) A) args s mc ms A) (gW E r shM) 79 [(0, .ref (r 200)), (1, .ref (r 77)), (2, iv y1), (4, iv x3)] [iv j25, iv x2] t26) h (fun j25 t26 h => ?_) (fun J27 hJ27 h => ?_)
          · refine g_iadd X dX12_rank_79 ?_
            refine g_istore_n (lv' := [(3, iv (x2 + j25)), (0, .ref (r 200)), (1, .ref (r 77)), (2, iv y1), (4, iv x3)]) X dX12_rank_80 rfl (by decide) rfl ?_
            refine g_iinc (lv' := [(4, iv (x3 + 1)), (3, iv (x2 + j25)), (0, .ref (r 200)), (1, .ref (r 77)), (2, iv y1)]) X dX12_rank_81 (k := 4) rfl (by decide) rfl ?_
            refine g_goto (tgt := 5) X dX12_rank_84 (by decide) ?_
            exact g_sub (lv' := [(0, .ref (r 200)), (1, .ref (r 77)), (2, iv y1), (3, iv (x2 + j25)), (4, iv (x3 + 1))]) [2, 3, 4, 1, 0] rfl (ih (x2 + j25) (x3 + 1) t26 h)
          refine g_if_eq (tgt := 78) X dX12_rank_71 (by decide) h (fun h => ?_) (fun h => ?_)
          · refine g_iconst X dX12_rank_78 ?_
            exact g_sub (lv' := [(0, .ref (r 200)), (1, .ref (r 77)), (2, iv y1), (4, iv x3)]) [0, 1, 2, 4] rfl (hJ27 0 t24 h)
          · refine g_iconst X dX12_rank_74 ?_
            refine g_goto (tgt := 79) X dX12_rank_75 (by decide) ?_
            exact g_sub (lv' := [(0, .ref (r 200)), (1, .ref (r 77)), (2, iv y1), (4, iv x3)]) [0, 1, 2, 4] rfl (hJ27 1 t24 h)
      refine g_icmp_ge (tgt := 26) X dX12_rank_19 (by decide) h (fun h => ?_) (fun h => ?_)
      · refine g_iconst X dX12_rank_26 ?_
        exact g_sub (lv' := [(0, .ref (r 200)), (1, .ref (r 77)), (2, iv y1), (3, iv x2), (4, iv x3)]) [0, 1, 2, 3, 4] rfl (hJ10 0 t4 h)
      · refine g_iconst X dX12_rank_22 ?_
        refine g_goto (tgt := 27) X dX12_rank_23 (by decide) ?_
        exact g_sub (lv' := [(0, .ref (r 200)), (1, .ref (r 77)), (2, iv y1), (3, iv x2), (4, iv x3)]) [0, 1, 2, 3, 4] rfl (hJ10 1 t4 h)
set_option maxHeartbeats 4000000 in
set_option maxRecDepth 100000 in
theorem b_f_X12_rank_77 {p : Program} {l : Launch} {e : Env} {s : State} {m : MethodId} {args : Array Value} {below : List Frame} {meth : Method} {c : Code} {E : cE} {A : Nat → Prop} {r : Nat → Nat} {mc ms : Nat} {z : Int × St} {N : Nat} {a1 : Int} {t : St} (X : gX p s m meth c cX12_rank 7 (some .int) yX12_rank args E A) (h : f_X12_rank_77 N a1 t = some z) : gP p l e rm_f_X12_rank_77 s m args below meth c E A 7 (MQ below ((gqI E (gW E r shM) z) A) args s mc ms A) (gW E r shM) 0 [(0, .ref (r 200)), (1, .ref (r 77)), (2, iv a1)] [] t := by
  unfold f_X12_rank_77 at h
  refine g_iconst X dX12_rank_0 ?_
  refine g_istore_n (lv' := [(3, iv 0), (0, .ref (r 200)), (1, .ref (r 77)), (2, iv a1)]) X dX12_rank_1 rfl (by decide) rfl ?_
  refine g_iconst X dX12_rank_2 ?_
  refine g_istore (lv' := [(4, iv 0), (3, iv 0), (0, .ref (r 200)), (1, .ref (r 77)), (2, iv a1)]) X dX12_rank_3 (by decide) rfl ?_
  refine g_sub (lv' := [(0, .ref (r 200)), (1, .ref (r 77)), (2, iv a1), (3, iv 0), (4, iv 0)]) [2, 3, 4, 1, 0] rfl (t_f_X12_rank_77_L5 X (fun k28 t29 h => ?_) N 0 0 t h)
  · refine g_iload_n X dX12_rank_87 0 rfl ?_
    exact g_iret X h dX12_rank_88
set_option maxHeartbeats 4000000 in
set_option maxRecDepth 100000 in
theorem cp_X12_rank_77 (l : Launch) (E : cE) (r : Nat → Nat) (N : Nat) (a1 : Int) (t : St) (z : Int × St) (h : f_X12_rank_77 N a1 t = some z) : cM l E yX12_rank cX12_rank 7 (some .int) rm_f_X12_rank_77 [.ref (r 200), .ref (r 77), iv a1] (gW E r shM t) (gqI E (gW E r shM) z) := by
  refine g_of (w := gW E r shM) (by decide) (Nat.le_of_ble_eq_true rfl) ?_
  intro p e s m below meth c A X
  exact g_sub (lv' := [(0, .ref (r 200)), (1, .ref (r 77)), (2, iv a1)]) [0, 1, 2] rfl (b_f_X12_rank_77 X h)
theorem dX12_settles_0 : decode cX12_settles 0 = .ok (.iconst 0, 1) := by decide +kernel
theorem dX12_settles_1 : decode cX12_settles 1 = .ok (.istore_n 1, 1) := by decide +kernel
theorem dX12_settles_2 : decode cX12_settles 2 = .ok (.iconst 0, 1) := by decide +kernel
theorem dX12_settles_3 : decode cX12_settles 3 = .ok (.istore_n 2, 1) := by decide +kernel
theorem dX12_settles_4 : decode cX12_settles 4 = .ok (.iload_n 2, 1) := by decide +kernel
theorem dX12_settles_5 : decode cX12_settles 5 = .ok (.aload_n 0, 1) := by decide +kernel
theorem dX12_settles_6 : decode cX12_settles 6 = .ok (.getfield 542, 3) := by decide +kernel
theorem dX12_settles_9 : decode cX12_settles 9 = .ok (.if_icmp .ge 40, 3) := by decide +kernel
theorem dX12_settles_12 : decode cX12_settles 12 = .ok (.aload_n 0, 1) := by decide +kernel
theorem dX12_settles_13 : decode cX12_settles 13 = .ok (.getfield 44, 3) := by decide +kernel
theorem dX12_settles_16 : decode cX12_settles 16 = .ok (.aload_n 0, 1) := by decide +kernel
theorem dX12_settles_17 : decode cX12_settles 17 = .ok (.getfield 147, 3) := by decide +kernel
theorem dX12_settles_20 : decode cX12_settles 20 = .ok (.iload_n 2, 1) := by decide +kernel
theorem dX12_settles_21 : decode cX12_settles 21 = .ok (.iaload, 1) := by decide +kernel
theorem dX12_settles_22 : decode cX12_settles 22 = .ok (.iaload, 1) := by decide +kernel
theorem dX12_settles_23 : decode cX12_settles 23 = .ok (.iload_n 1, 1) := by decide +kernel
theorem dX12_settles_24 : decode cX12_settles 24 = .ok (.if_icmp .le 17, 3) := by decide +kernel
theorem dX12_settles_27 : decode cX12_settles 27 = .ok (.aload_n 0, 1) := by decide +kernel
theorem dX12_settles_28 : decode cX12_settles 28 = .ok (.getfield 44, 3) := by decide +kernel
theorem dX12_settles_31 : decode cX12_settles 31 = .ok (.aload_n 0, 1) := by decide +kernel
theorem dX12_settles_32 : decode cX12_settles 32 = .ok (.getfield 147, 3) := by decide +kernel
theorem dX12_settles_35 : decode cX12_settles 35 = .ok (.iload_n 2, 1) := by decide +kernel
theorem dX12_settles_36 : decode cX12_settles 36 = .ok (.iaload, 1) := by decide +kernel
theorem dX12_settles_37 : decode cX12_settles 37 = .ok (.iaload, 1) := by decide +kernel
theorem dX12_settles_38 : decode cX12_settles 38 = .ok (.goto 4, 3) := by decide +kernel
theorem dX12_settles_41 : decode cX12_settles 41 = .ok (.iload_n 1, 1) := by decide +kernel
theorem dX12_settles_42 : decode cX12_settles 42 = .ok (.istore_n 1, 1) := by decide +kernel
theorem dX12_settles_43 : decode cX12_settles 43 = .ok (.iinc 2 1, 3) := by decide +kernel
theorem dX12_settles_46 : decode cX12_settles 46 = .ok (.goto (-42), 3) := by decide +kernel
theorem dX12_settles_49 : decode cX12_settles 49 = .ok (.iconst 0, 1) := by decide +kernel
theorem dX12_settles_50 : decode cX12_settles 50 = .ok (.istore_n 2, 1) := by decide +kernel
theorem dX12_settles_51 : decode cX12_settles 51 = .ok (.iload_n 2, 1) := by decide +kernel
theorem dX12_settles_52 : decode cX12_settles 52 = .ok (.aload_n 0, 1) := by decide +kernel
theorem dX12_settles_53 : decode cX12_settles 53 = .ok (.getfield 231, 3) := by decide +kernel
theorem dX12_settles_56 : decode cX12_settles 56 = .ok (.if_icmp .ge 77, 3) := by decide +kernel
theorem dX12_settles_59 : decode cX12_settles 59 = .ok (.aload_n 0, 1) := by decide +kernel
theorem dX12_settles_60 : decode cX12_settles 60 = .ok (.getfield 71, 3) := by decide +kernel
theorem dX12_settles_63 : decode cX12_settles 63 = .ok (.iload_n 2, 1) := by decide +kernel
theorem dX12_settles_64 : decode cX12_settles 64 = .ok (.iconst 4, 1) := by decide +kernel
theorem dX12_settles_65 : decode cX12_settles 65 = .ok (.aload_n 0, 1) := by decide +kernel
theorem dX12_settles_66 : decode cX12_settles 66 = .ok (.aload_n 0, 1) := by decide +kernel
theorem dX12_settles_67 : decode cX12_settles 67 = .ok (.getfield 150, 3) := by decide +kernel
theorem dX12_settles_70 : decode cX12_settles 70 = .ok (.aload_n 0, 1) := by decide +kernel
theorem dX12_settles_71 : decode cX12_settles 71 = .ok (.getfield 150, 3) := by decide +kernel
theorem dX12_settles_74 : decode cX12_settles 74 = .ok (.iload_n 2, 1) := by decide +kernel
theorem dX12_settles_75 : decode cX12_settles 75 = .ok (.iaload, 1) := by decide +kernel
theorem dX12_settles_76 : decode cX12_settles 76 = .ok (.invokevirtual 555, 3) := by decide +kernel
theorem dX12_settles_79 : decode cX12_settles 79 = .ok (.imul, 1) := by decide +kernel
theorem dX12_settles_80 : decode cX12_settles 80 = .ok (.iastore, 1) := by decide +kernel
theorem dX12_settles_81 : decode cX12_settles 81 = .ok (.aload_n 0, 1) := by decide +kernel
theorem dX12_settles_82 : decode cX12_settles 82 = .ok (.getfield 74, 3) := by decide +kernel
theorem dX12_settles_85 : decode cX12_settles 85 = .ok (.iload_n 2, 1) := by decide +kernel
theorem dX12_settles_86 : decode cX12_settles 86 = .ok (.iconst 4, 1) := by decide +kernel
theorem dX12_settles_87 : decode cX12_settles 87 = .ok (.aload_n 0, 1) := by decide +kernel
theorem dX12_settles_88 : decode cX12_settles 88 = .ok (.aload_n 0, 1) := by decide +kernel
theorem dX12_settles_89 : decode cX12_settles 89 = .ok (.getfield 153, 3) := by decide +kernel
theorem dX12_settles_92 : decode cX12_settles 92 = .ok (.aload_n 0, 1) := by decide +kernel
theorem dX12_settles_93 : decode cX12_settles 93 = .ok (.getfield 153, 3) := by decide +kernel
theorem dX12_settles_96 : decode cX12_settles 96 = .ok (.iload_n 2, 1) := by decide +kernel
theorem dX12_settles_97 : decode cX12_settles 97 = .ok (.iaload, 1) := by decide +kernel
theorem dX12_settles_98 : decode cX12_settles 98 = .ok (.invokevirtual 555, 3) := by decide +kernel
theorem dX12_settles_101 : decode cX12_settles 101 = .ok (.imul, 1) := by decide +kernel
theorem dX12_settles_102 : decode cX12_settles 102 = .ok (.iastore, 1) := by decide +kernel
theorem dX12_settles_103 : decode cX12_settles 103 = .ok (.aload_n 0, 1) := by decide +kernel
theorem dX12_settles_104 : decode cX12_settles 104 = .ok (.getfield 77, 3) := by decide +kernel
theorem dX12_settles_107 : decode cX12_settles 107 = .ok (.iload_n 2, 1) := by decide +kernel
theorem dX12_settles_108 : decode cX12_settles 108 = .ok (.aload_n 0, 1) := by decide +kernel
theorem dX12_settles_109 : decode cX12_settles 109 = .ok (.getfield 156, 3) := by decide +kernel
theorem dX12_settles_112 : decode cX12_settles 112 = .ok (.iload_n 2, 1) := by decide +kernel
theorem dX12_settles_113 : decode cX12_settles 113 = .ok (.iaload, 1) := by decide +kernel
theorem dX12_settles_114 : decode cX12_settles 114 = .ok (.iastore, 1) := by decide +kernel
theorem dX12_settles_115 : decode cX12_settles 115 = .ok (.aload_n 0, 1) := by decide +kernel
theorem dX12_settles_116 : decode cX12_settles 116 = .ok (.getfield 80, 3) := by decide +kernel
theorem dX12_settles_119 : decode cX12_settles 119 = .ok (.iload_n 2, 1) := by decide +kernel
theorem dX12_settles_120 : decode cX12_settles 120 = .ok (.aload_n 0, 1) := by decide +kernel
theorem dX12_settles_121 : decode cX12_settles 121 = .ok (.getfield 159, 3) := by decide +kernel
theorem dX12_settles_124 : decode cX12_settles 124 = .ok (.iload_n 2, 1) := by decide +kernel
theorem dX12_settles_125 : decode cX12_settles 125 = .ok (.iaload, 1) := by decide +kernel
theorem dX12_settles_126 : decode cX12_settles 126 = .ok (.iastore, 1) := by decide +kernel
theorem dX12_settles_127 : decode cX12_settles 127 = .ok (.iinc 2 1, 3) := by decide +kernel
theorem dX12_settles_130 : decode cX12_settles 130 = .ok (.goto (-79), 3) := by decide +kernel
theorem dX12_settles_133 : decode cX12_settles 133 = .ok (.aload_n 0, 1) := by decide +kernel
theorem dX12_settles_134 : decode cX12_settles 134 = .ok (.dup, 1) := by decide +kernel
theorem dX12_settles_135 : decode cX12_settles 135 = .ok (.getfield 252, 3) := by decide +kernel
theorem dX12_settles_138 : decode cX12_settles 138 = .ok (.iload_n 1, 1) := by decide +kernel
theorem dX12_settles_139 : decode cX12_settles 139 = .ok (.iadd, 1) := by decide +kernel
theorem dX12_settles_140 : decode cX12_settles 140 = .ok (.putfield 252, 3) := by decide +kernel
theorem dX12_settles_143 : decode cX12_settles 143 = .ok (.aload_n 0, 1) := by decide +kernel
theorem dX12_settles_144 : decode cX12_settles 144 = .ok (.dup, 1) := by decide +kernel
theorem dX12_settles_145 : decode cX12_settles 145 = .ok (.getfield 255, 3) := by decide +kernel
theorem dX12_settles_148 : decode cX12_settles 148 = .ok (.iconst 1, 1) := by decide +kernel
theorem dX12_settles_149 : decode cX12_settles 149 = .ok (.iadd, 1) := by decide +kernel
theorem dX12_settles_150 : decode cX12_settles 150 = .ok (.putfield 255, 3) := by decide +kernel
theorem dX12_settles_153 : decode cX12_settles 153 = .ok (.return_, 1) := by decide +kernel
abbrev rm_f_X12_settles : Room := { frames := 1, cells := 0, slots := 0, locals := 26 }
def f_X12_settles_L4 (K4 : (Int → St → Option (St))) : Nat → Int → Int → St → Option (St)
  | 0, _, _, _ => none
  | n9 + 1, x1, x2, t3 =>
    lt1 (t3.1 200 75) fun v5 =>
    cmpI x2 v5 (if x2 < v5 then (ixI x2 4 (lt1 (t3.1 74 x2.toNat) fun v6 =>
    ixI v6 100 (lt1 (t3.1 24 v6.toNat) fun v7 =>
    jn1 (fun (j8 : Int) (t9 : St) => f_X12_settles_L4 K4 n9 j8 (x2 + 1) t9) fun J10 =>
    cmpI v7 x1 (if x1 < v7 then (ixI x2 4 (lt1 (t3.1 74 x2.toNat) fun v11 =>
    ixI v11 100 (lt1 (t3.1 24 v11.toNat) fun v12 =>
    J10 v12 t3)))
    else (J10 x1 t3)))))
    else (K4 x1 t3))
def f_X12_settles_L51 (N : Nat) (K18 : (St → Option (St))) : Nat → Int → St → Option (St)
  | 0, _, _ => none
  | n9 + 1, x16, t17 =>
    lt1 (t17.1 200 37) fun v19 =>
    cmpI x16 v19 (if x16 < v19 then (ixI x16 64 (lt1 (t17.1 76 x16.toNat) fun v20 =>
    bdI (f_X12_rank_76 N v20 t17) fun v22 t21 =>
    ixI x16 64 (lt1 (pI t21 38 x16.toNat (4 * v22)) fun t23 =>
    ixI x16 64 (lt1 (t23.1 77 x16.toNat) fun v24 =>
    bdI (f_X12_rank_77 N v24 t23) fun v26 t25 =>
    ixI x16 64 (lt1 (pI t25 39 x16.toNat (4 * v26)) fun t27 =>
    ixI x16 64 (lt1 (t27.1 78 x16.toNat) fun v28 =>
    ixI x16 64 (lt1 (pI t27 40 x16.toNat v28) fun t29 =>
    ixI x16 64 (lt1 (t29.1 79 x16.toNat) fun v30 =>
    ixI x16 64 (lt1 (pI t29 41 x16.toNat v30) fun t31 =>
    f_X12_settles_L51 N K18 n9 (x16 + 1) t31)))))))))
    else (K18 t17))
def f_X12_settles (N : Nat) (t : St) : Option (St) :=
    f_X12_settles_L4 (fun (k13 : Int) (t14 : St) => f_X12_settles_L51 N (fun (t32 : St) => lt1 (t32.1 200 42) fun v33 =>
    lt1 (pI t32 200 42 (v33 + k13)) fun t34 =>
    lt1 (t34.1 200 43) fun v35 =>
    lt1 (pI t34 200 43 (v35 + 1)) fun t36 =>
    some t36) N 0 t14) N 0 0 t
set_option maxHeartbeats 4000000 in
set_option maxRecDepth 100000 in
theorem t_f_X12_settles_L4 {p : Program} {l : Launch} {e : Env} {s : State} {m : MethodId} {args : Array Value} {below : List Frame} {meth : Method} {c : Code} {E : cE} {A : Nat → Prop} {r : Nat → Nat} {mc ms : Nat} {z : St} {K4 : (Int → St → Option (St))} (X : gX p s m meth c cX12_settles 3 none yX12_settles args E A) (hK4 : ∀ (q1 : Int) (t9 : St), K4 q1 t9 = some z → gP p l e rm_f_X12_settles s m args below meth c E A 3 (MQ below ((gqV E (gW E r shM) z) A) args s mc ms A) (gW E r shM) 49 [(0, .ref (r 200)), (1, iv q1)] [] t9) : ∀ (n9 : Nat) (x1 : Int) (x2 : Int) (t3 : St), f_X12_settles_L4 K4 n9 x1 x2 t3 = some z → gP p l e rm_f_X12_settles s m args below meth c E A 3 (MQ below ((gqV E (gW E r shM) z) A) args s mc ms A) (gW E r shM) 4 [(0, .ref (r 200)), (1, iv x1), (2, iv x2)] [] t3 := by
  intro n9
  induction n9 with
  | zero => intro x1 x2 t3 h; cases h
  | succ n9 ih =>
    intro x1 x2 t3 h
    unfold f_X12_settles_L4 at h
    refine g_iload_n X dX12_settles_4 2 rfl ?_
    refine g_aload_n X dX12_settles_5 0 rfl ?_
    refine g_getI X fM_75 rfl dX12_settles_6 h (fun v5 h => ?_)
    refine g_icmp_ge (tgt := 49) X dX12_settles_9 (by decide) h (fun h => ?_) (fun h => ?_)
    · exact g_sub (lv' := [(0, .ref (r 200)), (1, iv x1)]) [0, 1] rfl (hK4 x1 t3 h)
    · refine g_aload_n X dX12_settles_12 0 rfl ?_
      refine g_getR X fM_24 rfl dX12_settles_13 ?_
      refine g_aload_n X dX12_settles_16 0 rfl ?_
      refine g_getR X fM_74 rfl dX12_settles_17 ?_
      refine g_iload_n X dX12_settles_20 2 rfl ?_
      refine g_iald X aM_74 dX12_settles_21 h (fun v6 h => ?_)
      refine g_iald X aM_24 dX12_settles_22 h (fun v7 h => ?_)
      refine g_iload_n X dX12_settles_23 1 rfl ?_
      refine g_join (J := fun jj => ∀ (j8 : Int) (t9 : St), jj j8 t9 = some z → gP p l e rm_f_X12_settles s m args below meth c E A 3 (MQ below ((gqV E (gW E r shM) z) A) args s mc ms A) (gW E r shM) 42 [(0, .ref (r 200)), (2, iv x2)] [iv j8] t9) h (fun j8 t9 h => ?_) (fun J10 hJ10 h => ?_)
      · refine g_istore_n (lv' := [(1, iv j8), (0, .ref (r 200)), (2, iv x2)]) X dX12_settles_42 rfl (by decide) rfl ?_
        refine g_iinc (lv' := [(2, iv (x2 + 1)), (1, iv j8), (0, .ref (r 200))]) X dX12_settles_43 (k := 2) rfl (by decide) rfl ?_
        refine g_goto (tgt := 4) X dX12_settles_46 (by decide) ?_
        exact g_sub (lv' := [(0, .ref (r 200)), (1, iv j8), (2, iv (x2 + 1))]) [2, 1, 0] rfl (ih j8 (x2 + 1) t9 h)
      refine g_icmp_le (tgt := 41) X dX12_settles_24 (by decide) h (fun h => ?_) (fun h => ?_)
      · refine g_iload_n X dX12_settles_41 1 rfl ?_
        exact g_sub (lv' := [(0, .ref (r 200)), (2, iv x2)]) [0, 2] rfl (hJ10 x1 t3 h)
      · refine g_aload_n X dX12_settles_27 0 rfl ?_
        refine g_getR X fM_24 rfl dX12_settles_28 ?_
        refine g_aload_n X dX12_settles_31 0 rfl ?_
        refine g_getR X fM_74 rfl dX12_settles_32 ?_
        refine g_iload_n X dX12_settles_35 2 rfl ?_
        refine g_iald X aM_74 dX12_settles_36 h (fun v11 h => ?_)
        refine g_iald X aM_24 dX12_settles_37 h (fun v12 h => ?_)
        refine g_goto (tgt := 42) X dX12_settles_38 (by decide) ?_
        exact g_sub (lv' := [(0, .ref (r 200)), (2, iv x2)]) [0, 2] rfl (hJ10 v12 t3 h)
set_option maxHeartbeats 4000000 in
set_option maxRecDepth 100000 in
theorem t_f_X12_settles_L51 {p : Program} {l : Launch} {e : Env} {s : State} {m : MethodId} {args : Array Value} {below : List Frame} {meth : Method} {c : Code} {E : cE} {A : Nat → Prop} {r : Nat → Nat} {mc ms : Nat} {z : St} {N : Nat} {K18 : (St → Option (St))} {y15 : Int} (X : gX p s m meth c cX12_settles 3 none yX12_settles args E A) (hK18 : ∀ (t9 : St), K18 t9 = some z → gP p l e rm_f_X12_settles s m args below meth c E A 3 (MQ below ((gqV E (gW E r shM) z) A) args s mc ms A) (gW E r shM) 133 [(0, .ref (r 200)), (1, iv y15)] [] t9) : ∀ (n9 : Nat) (x16 : Int) (t17 : St), f_X12_settles_L51 N K18 n9 x16 t17 = some z → gP p l e rm_f_X12_settles s m args below meth c E A 3 (MQ below ((gqV E (gW E r shM) z) A) args s mc ms A) (gW E r shM) 51 [(0, .ref (r 200)), (1, iv y15), (2, iv x16)] [] t17 := by
  intro n9
  induction n9 with
  | zero => intro x16 t17 h; cases h
  | succ n9 ih =>
    intro x16 t17 h
    unfold f_X12_settles_L51 at h
    refine g_iload_n X dX12_settles_51 2 rfl ?_
    refine g_aload_n X dX12_settles_52 0 rfl ?_
    refine g_getI X fM_37 rfl dX12_settles_53 h (fun v19 h => ?_)
    refine g_icmp_ge (tgt := 133) X dX12_settles_56 (by decide) h (fun h => ?_) (fun h => ?_)
    · exact g_sub (lv' := [(0, .ref (r 200)), (1, iv y15)]) [0, 1] rfl (hK18 t17 h)
    · refine g_aload_n X dX12_settles_59 0 rfl ?_
      refine g_getR X fM_38 rfl dX12_settles_60 ?_
      refine g_iload_n X dX12_settles_63 2 rfl ?_
      refine g_iconst X dX12_settles_64 ?_
      refine g_aload_n X dX12_settles_65 0 rfl ?_
      refine g_aload_n X dX12_settles_66 0 rfl ?_
      refine g_getR X fM_76 rfl dX12_settles_67 ?_
      refine g_aload_n X dX12_settles_70 0 rfl ?_
      refine g_getR X fM_76 rfl dX12_settles_71 ?_
      refine g_iload_n X dX12_settles_74 2 rfl ?_
      refine g_iald X aM_76 dX12_settles_75 h (fun v20 h => ?_)
      refine g_callI (rest := [iv 4, iv x16, .ref (r 38)]) X (fun u9 h9 => cp_X12_rank_76 l E r N v20 t17 u9 h9) yy_X12_rank yi_X12_rank wdM_RX12_555 0 12 (gW_at oM) rfl rfl rfl (Nat.le_of_ble_eq_true rfl) dX12_settles_76 ⟨by decide, by decide⟩ ⟨rfl, rfl⟩ h (fun v22 t21 h => ?_)
      refine g_imul X dX12_settles_79 ?_
      refine g_iast X aM_38 dX12_settles_80 h (fun t23 h => ?_)
      refine g_aload_n X dX12_settles_81 0 rfl ?_
      refine g_getR X fM_39 rfl dX12_settles_82 ?_
      refine g_iload_n X dX12_settles_85 2 rfl ?_
      refine g_iconst X dX12_settles_86 ?_
      refine g_aload_n X dX12_settles_87 0 rfl ?_
      refine g_aload_n X dX12_settles_88 0 rfl ?_
      refine g_getR X fM_77 rfl dX12_settles_89 ?_
      refine g_aload_n X dX12_settles_92 0 rfl ?_
      refine g_getR X fM_77 rfl dX12_settles_93 ?_
      refine g_iload_n X dX12_settles_96 2 rfl ?_
      refine g_iald X aM_77 dX12_settles_97 h (fun v24 h => ?_)
      refine g_callI (rest := [iv 4, iv x16, .ref (r 39)]) X (fun u9 h9 => cp_X12_rank_77 l E r N v24 t23 u9 h9) yy_X12_rank yi_X12_rank wdM_RX12_555 0 12 (gW_at oM) rfl rfl rfl (Nat.le_of_ble_eq_true rfl) dX12_settles_98 ⟨by decide, by decide⟩ ⟨rfl, rfl⟩ h (fun v26 t25 h => ?_)
      refine g_imul X dX12_settles_101 ?_
      refine g_iast X aM_39 dX12_settles_102 h (fun t27 h => ?_)
      refine g_aload_n X dX12_settles_103 0 rfl ?_
      refine g_getR X fM_40 rfl dX12_settles_104 ?_
      refine g_iload_n X dX12_settles_107 2 rfl ?_
      refine g_aload_n X dX12_settles_108 0 rfl ?_
      refine g_getR X fM_78 rfl dX12_settles_109 ?_
      refine g_iload_n X dX12_settles_112 2 rfl ?_
      refine g_iald X aM_78 dX12_settles_113 h (fun v28 h => ?_)
      refine g_iast X aM_40 dX12_settles_114 h (fun t29 h => ?_)
      refine g_aload_n X dX12_settles_115 0 rfl ?_
      refine g_getR X fM_41 rfl dX12_settles_116 ?_
      refine g_iload_n X dX12_settles_119 2 rfl ?_
      refine g_aload_n X dX12_settles_120 0 rfl ?_
      refine g_getR X fM_79 rfl dX12_settles_121 ?_
      refine g_iload_n X dX12_settles_124 2 rfl ?_
      refine g_iald X aM_79 dX12_settles_125 h (fun v30 h => ?_)
      refine g_iast X aM_41 dX12_settles_126 h (fun t31 h => ?_)
      refine g_iinc (lv' := [(2, iv (x16 + 1)), (0, .ref (r 200)), (1, iv y15)]) X dX12_settles_127 (k := 2) rfl (by decide) rfl ?_
      refine g_goto (tgt := 51) X dX12_settles_130 (by decide) ?_
      exact g_sub (lv' := [(0, .ref (r 200)), (1, iv y15), (2, iv (x16 + 1))]) [1, 2, 0] rfl (ih (x16 + 1) t31 h)
set_option maxHeartbeats 4000000 in
set_option maxRecDepth 100000 in
theorem b_f_X12_settles {p : Program} {l : Launch} {e : Env} {s : State} {m : MethodId} {args : Array Value} {below : List Frame} {meth : Method} {c : Code} {E : cE} {A : Nat → Prop} {r : Nat → Nat} {mc ms : Nat} {z : St} {N : Nat} {t : St} (X : gX p s m meth c cX12_settles 3 none yX12_settles args E A) (h : f_X12_settles N t = some z) : gP p l e rm_f_X12_settles s m args below meth c E A 3 (MQ below ((gqV E (gW E r shM) z) A) args s mc ms A) (gW E r shM) 0 [(0, .ref (r 200))] [] t := by
  unfold f_X12_settles at h
  refine g_iconst X dX12_settles_0 ?_
  refine g_istore_n (lv' := [(1, iv 0), (0, .ref (r 200))]) X dX12_settles_1 rfl (by decide) rfl ?_
  refine g_iconst X dX12_settles_2 ?_
  refine g_istore_n (lv' := [(2, iv 0), (1, iv 0), (0, .ref (r 200))]) X dX12_settles_3 rfl (by decide) rfl ?_
  refine g_sub (lv' := [(0, .ref (r 200)), (1, iv 0), (2, iv 0)]) [2, 1, 0] rfl (t_f_X12_settles_L4 X (fun k13 t14 h => ?_) N 0 0 t h)
  · refine g_iconst X dX12_settles_49 ?_
    refine g_istore_n (lv' := [(2, iv 0), (0, .ref (r 200)), (1, iv k13)]) X dX12_settles_50 rfl (by decide) rfl ?_
    refine g_sub (lv' := [(0, .ref (r 200)), (1, iv k13), (2, iv 0)]) [1, 2, 0] rfl (t_f_X12_settles_L51 X (fun t32 h => ?_) N 0 t14 h)
    · refine g_aload_n X dX12_settles_133 0 rfl ?_
      refine g_dup X rfl dX12_settles_134 ?_
      refine g_getI X fM_42 rfl dX12_settles_135 h (fun v33 h => ?_)
      refine g_iload_n X dX12_settles_138 1 rfl ?_
      refine g_iadd X dX12_settles_139 ?_
      refine g_putI X fM_42w rfl dX12_settles_140 h (fun t34 h => ?_)
      refine g_aload_n X dX12_settles_143 0 rfl ?_
      refine g_dup X rfl dX12_settles_144 ?_
      refine g_getI X fM_43 rfl dX12_settles_145 h (fun v35 h => ?_)
      refine g_iconst X dX12_settles_148 ?_
      refine g_iadd X dX12_settles_149 ?_
      refine g_putI X fM_43w rfl dX12_settles_150 h (fun t36 h => ?_)
      exact g_vret X h dX12_settles_153
set_option maxHeartbeats 4000000 in
set_option maxRecDepth 100000 in
theorem cp_X12_settles (l : Launch) (E : cE) (r : Nat → Nat) (N : Nat) (t : St) (z : St) (h : f_X12_settles N t = some z) : cM l E yX12_settles cX12_settles 3 none rm_f_X12_settles [.ref (r 200)] (gW E r shM t) (gqV E (gW E r shM) z) := by
  refine g_of (w := gW E r shM) (by decide) (Nat.le_of_ble_eq_true rfl) ?_
  intro p e s m below meth c A X
  exact g_sub (lv' := [(0, .ref (r 200))]) [0] rfl (b_f_X12_settles X h)
theorem yy_X12_settles : cY yX12_settles cX12_settles 3 none 0 := ⟨wdK_X12_settles, wdZ_RX12, by decide +kernel⟩
theorem yi_X12_settles : cYi yX12_settles := ⟨wdN_X12_settles, wdS_X12_settles⟩
theorem dX12_notes_0 : decode cX12_notes 0 = .ok (.aload_n 0, 1) := by decide +kernel
theorem dX12_notes_1 : decode cX12_notes 1 = .ok (.aload_n 0, 1) := by decide +kernel
theorem dX12_notes_2 : decode cX12_notes 2 = .ok (.getfield 533, 3) := by decide +kernel
theorem dX12_notes_5 : decode cX12_notes 5 = .ok (.putfield 134, 3) := by decide +kernel
theorem dX12_notes_8 : decode cX12_notes 8 = .ok (.aload_n 0, 1) := by decide +kernel
theorem dX12_notes_9 : decode cX12_notes 9 = .ok (.aload_n 0, 1) := by decide +kernel
theorem dX12_notes_10 : decode cX12_notes 10 = .ok (.getfield 536, 3) := by decide +kernel
theorem dX12_notes_13 : decode cX12_notes 13 = .ok (.putfield 138, 3) := by decide +kernel
theorem dX12_notes_16 : decode cX12_notes 16 = .ok (.aload_n 0, 1) := by decide +kernel
theorem dX12_notes_17 : decode cX12_notes 17 = .ok (.aload_n 0, 1) := by decide +kernel
theorem dX12_notes_18 : decode cX12_notes 18 = .ok (.getfield 539, 3) := by decide +kernel
theorem dX12_notes_21 : decode cX12_notes 21 = .ok (.putfield 141, 3) := by decide +kernel
theorem dX12_notes_24 : decode cX12_notes 24 = .ok (.return_, 1) := by decide +kernel
abbrev rm_f_X12_notes : Room := { frames := 0, cells := 0, slots := 0, locals := 0 }
def f_X12_notes (N : Nat) (t : St) : Option (St) :=
    lt1 (t.1 200 70) fun v1 =>
    lt1 (pI t 200 67 v1) fun t2 =>
    lt1 (t2.1 200 71) fun v3 =>
    lt1 (pI t2 200 68 v3) fun t4 =>
    lt1 (t4.1 200 72) fun v5 =>
    lt1 (pI t4 200 69 v5) fun t6 =>
    some t6
set_option maxHeartbeats 4000000 in
set_option maxRecDepth 100000 in
theorem b_f_X12_notes {p : Program} {l : Launch} {e : Env} {s : State} {m : MethodId} {args : Array Value} {below : List Frame} {meth : Method} {c : Code} {E : cE} {A : Nat → Prop} {r : Nat → Nat} {mc ms : Nat} {z : St} {N : Nat} {t : St} (X : gX p s m meth c cX12_notes 1 none yX12_notes args E A) (h : f_X12_notes N t = some z) : gP p l e rm_f_X12_notes s m args below meth c E A 1 (MQ below ((gqV E (gW E r shM) z) A) args s mc ms A) (gW E r shM) 0 [(0, .ref (r 200))] [] t := by
  unfold f_X12_notes at h
  refine g_aload_n X dX12_notes_0 0 rfl ?_
  refine g_aload_n X dX12_notes_1 0 rfl ?_
  refine g_getI X fM_70 rfl dX12_notes_2 h (fun v1 h => ?_)
  refine g_putI X fM_67w rfl dX12_notes_5 h (fun t2 h => ?_)
  refine g_aload_n X dX12_notes_8 0 rfl ?_
  refine g_aload_n X dX12_notes_9 0 rfl ?_
  refine g_getI X fM_71 rfl dX12_notes_10 h (fun v3 h => ?_)
  refine g_putI X fM_68w rfl dX12_notes_13 h (fun t4 h => ?_)
  refine g_aload_n X dX12_notes_16 0 rfl ?_
  refine g_aload_n X dX12_notes_17 0 rfl ?_
  refine g_getI X fM_72 rfl dX12_notes_18 h (fun v5 h => ?_)
  refine g_putI X fM_69w rfl dX12_notes_21 h (fun t6 h => ?_)
  exact g_vret X h dX12_notes_24
set_option maxHeartbeats 4000000 in
set_option maxRecDepth 100000 in
theorem cp_X12_notes (l : Launch) (E : cE) (r : Nat → Nat) (N : Nat) (t : St) (z : St) (h : f_X12_notes N t = some z) : cM l E yX12_notes cX12_notes 1 none rm_f_X12_notes [.ref (r 200)] (gW E r shM t) (gqV E (gW E r shM) z) := by
  refine g_of (w := gW E r shM) (by decide) (Nat.le_of_ble_eq_true rfl) ?_
  intro p e s m below meth c A X
  exact g_sub (lv' := [(0, .ref (r 200))]) [0] rfl (b_f_X12_notes X h)
theorem yy_X12_notes : cY yX12_notes cX12_notes 1 none 0 := ⟨wdK_X12_notes, wdZ_RX12, by decide +kernel⟩
theorem yi_X12_notes : cYi yX12_notes := ⟨wdN_X12_notes, wdS_X12_notes⟩
theorem dX12_failed_0 : decode cX12_failed 0 = .ok (.iload_n 1, 1) := by decide +kernel
theorem dX12_failed_1 : decode cX12_failed 1 = .ok (.ifCond .ne 10, 3) := by decide +kernel
theorem dX12_failed_4 : decode cX12_failed 4 = .ok (.aload_n 0, 1) := by decide +kernel
theorem dX12_failed_5 : decode cX12_failed 5 = .ok (.getfield 134, 3) := by decide +kernel
theorem dX12_failed_8 : decode cX12_failed 8 = .ok (.goto 28, 3) := by decide +kernel
theorem dX12_failed_11 : decode cX12_failed 11 = .ok (.iload_n 1, 1) := by decide +kernel
theorem dX12_failed_12 : decode cX12_failed 12 = .ok (.iconst 1, 1) := by decide +kernel
theorem dX12_failed_13 : decode cX12_failed 13 = .ok (.if_icmp .ne 10, 3) := by decide +kernel
theorem dX12_failed_16 : decode cX12_failed 16 = .ok (.aload_n 0, 1) := by decide +kernel
theorem dX12_failed_17 : decode cX12_failed 17 = .ok (.getfield 138, 3) := by decide +kernel
theorem dX12_failed_20 : decode cX12_failed 20 = .ok (.goto 16, 3) := by decide +kernel
theorem dX12_failed_23 : decode cX12_failed 23 = .ok (.iload_n 1, 1) := by decide +kernel
theorem dX12_failed_24 : decode cX12_failed 24 = .ok (.iconst 2, 1) := by decide +kernel
theorem dX12_failed_25 : decode cX12_failed 25 = .ok (.if_icmp .ne 10, 3) := by decide +kernel
theorem dX12_failed_28 : decode cX12_failed 28 = .ok (.aload_n 0, 1) := by decide +kernel
theorem dX12_failed_29 : decode cX12_failed 29 = .ok (.getfield 141, 3) := by decide +kernel
theorem dX12_failed_32 : decode cX12_failed 32 = .ok (.goto 4, 3) := by decide +kernel
theorem dX12_failed_35 : decode cX12_failed 35 = .ok (.iconst (-1), 1) := by decide +kernel
theorem dX12_failed_36 : decode cX12_failed 36 = .ok (.ireturn, 1) := by decide +kernel
abbrev rm_f_X12_failed : Room := { frames := 0, cells := 0, slots := 0, locals := 0 }
def f_X12_failed (N : Nat) (a0 : Int) (t : St) : Option (Int × St) :=
    cmpI a0 0 (if a0 = 0 then (lt1 (t.1 200 67) fun v3 =>
    some (v3, t))
    else (cmpI a0 1 (if a0 = 1 then (lt1 (t.1 200 68) fun v2 =>
    some (v2, t))
    else (cmpI a0 2 (if a0 = 2 then (lt1 (t.1 200 69) fun v1 =>
    some (v1, t))
    else (some ((-1), t)))))))
set_option maxHeartbeats 4000000 in
set_option maxRecDepth 100000 in
theorem b_f_X12_failed {p : Program} {l : Launch} {e : Env} {s : State} {m : MethodId} {args : Array Value} {below : List Frame} {meth : Method} {c : Code} {E : cE} {A : Nat → Prop} {r : Nat → Nat} {mc ms : Nat} {z : Int × St} {N : Nat} {a0 : Int} {t : St} (X : gX p s m meth c cX12_failed 2 (some .int) yX12_failed args E A) (h : f_X12_failed N a0 t = some z) : gP p l e rm_f_X12_failed s m args below meth c E A 2 (MQ below ((gqI E (gW E r shM) z) A) args s mc ms A) (gW E r shM) 0 [(0, .ref (r 200)), (1, iv a0)] [] t := by
  unfold f_X12_failed at h
  refine g_iload_n X dX12_failed_0 1 rfl ?_
  refine g_if_ne (tgt := 11) X dX12_failed_1 (by decide) h (fun h => ?_) (fun h => ?_)
  · refine g_iload_n X dX12_failed_11 1 rfl ?_
    refine g_iconst X dX12_failed_12 ?_
    refine g_icmp_ne (tgt := 23) X dX12_failed_13 (by decide) h (fun h => ?_) (fun h => ?_)
    · refine g_iload_n X dX12_failed_23 1 rfl ?_
      refine g_iconst X dX12_failed_24 ?_
      refine g_icmp_ne (tgt := 35) X dX12_failed_25 (by decide) h (fun h => ?_) (fun h => ?_)
      · refine g_iconst X dX12_failed_35 ?_
        exact g_iret X h dX12_failed_36
      · refine g_aload_n X dX12_failed_28 0 rfl ?_
        refine g_getI X fM_69 rfl dX12_failed_29 h (fun v1 h => ?_)
        refine g_goto (tgt := 36) X dX12_failed_32 (by decide) ?_
        exact g_iret X h dX12_failed_36
    · refine g_aload_n X dX12_failed_16 0 rfl ?_
      refine g_getI X fM_68 rfl dX12_failed_17 h (fun v2 h => ?_)
      refine g_goto (tgt := 36) X dX12_failed_20 (by decide) ?_
      exact g_iret X h dX12_failed_36
  · refine g_aload_n X dX12_failed_4 0 rfl ?_
    refine g_getI X fM_67 rfl dX12_failed_5 h (fun v3 h => ?_)
    refine g_goto (tgt := 36) X dX12_failed_8 (by decide) ?_
    exact g_iret X h dX12_failed_36
set_option maxHeartbeats 4000000 in
set_option maxRecDepth 100000 in
theorem cp_X12_failed (l : Launch) (E : cE) (r : Nat → Nat) (N : Nat) (a0 : Int) (t : St) (z : Int × St) (h : f_X12_failed N a0 t = some z) : cM l E yX12_failed cX12_failed 2 (some .int) rm_f_X12_failed [.ref (r 200), iv a0] (gW E r shM t) (gqI E (gW E r shM) z) := by
  refine g_of (w := gW E r shM) (by decide) (Nat.le_of_ble_eq_true rfl) ?_
  intro p e s m below meth c A X
  exact g_sub (lv' := [(0, .ref (r 200)), (1, iv a0)]) [0, 1] rfl (b_f_X12_failed X h)
theorem yy_X12_failed : cY yX12_failed cX12_failed 2 (some .int) 1 := ⟨wdK_X12_failed, wdZ_RX12, by decide +kernel⟩
theorem yi_X12_failed : cYi yX12_failed := ⟨wdN_X12_failed, wdS_X12_failed⟩
theorem dX12_writes_0 : decode cX12_writes 0 = .ok (.aload_n 0, 1) := by decide +kernel
theorem dX12_writes_1 : decode cX12_writes 1 = .ok (.getfield 569, 3) := by decide +kernel
theorem dX12_writes_4 : decode cX12_writes 4 = .ok (.istore_n 1, 1) := by decide +kernel
theorem dX12_writes_5 : decode cX12_writes 5 = .ok (.iconst 0, 1) := by decide +kernel
theorem dX12_writes_6 : decode cX12_writes 6 = .ok (.istore_n 2, 1) := by decide +kernel
theorem dX12_writes_7 : decode cX12_writes 7 = .ok (.iload_n 2, 1) := by decide +kernel
theorem dX12_writes_8 : decode cX12_writes 8 = .ok (.aload_n 0, 1) := by decide +kernel
theorem dX12_writes_9 : decode cX12_writes 9 = .ok (.getfield 231, 3) := by decide +kernel
theorem dX12_writes_12 : decode cX12_writes 12 = .ok (.if_icmp .ge 73, 3) := by decide +kernel
theorem dX12_writes_15 : decode cX12_writes 15 = .ok (.sipush 256, 3) := by decide +kernel
theorem dX12_writes_18 : decode cX12_writes 18 = .ok (.iload_n 1, 1) := by decide +kernel
theorem dX12_writes_19 : decode cX12_writes 19 = .ok (.imul, 1) := by decide +kernel
theorem dX12_writes_20 : decode cX12_writes 20 = .ok (.iconst 4, 1) := by decide +kernel
theorem dX12_writes_21 : decode cX12_writes 21 = .ok (.iload_n 2, 1) := by decide +kernel
theorem dX12_writes_22 : decode cX12_writes 22 = .ok (.imul, 1) := by decide +kernel
theorem dX12_writes_23 : decode cX12_writes 23 = .ok (.iadd, 1) := by decide +kernel
theorem dX12_writes_24 : decode cX12_writes 24 = .ok (.istore_n 3, 1) := by decide +kernel
theorem dX12_writes_25 : decode cX12_writes 25 = .ok (.aload_n 0, 1) := by decide +kernel
theorem dX12_writes_26 : decode cX12_writes 26 = .ok (.getfield 115, 3) := by decide +kernel
theorem dX12_writes_29 : decode cX12_writes 29 = .ok (.iload_n 3, 1) := by decide +kernel
theorem dX12_writes_30 : decode cX12_writes 30 = .ok (.aload_n 0, 1) := by decide +kernel
theorem dX12_writes_31 : decode cX12_writes 31 = .ok (.getfield 71, 3) := by decide +kernel
theorem dX12_writes_34 : decode cX12_writes 34 = .ok (.iload_n 2, 1) := by decide +kernel
theorem dX12_writes_35 : decode cX12_writes 35 = .ok (.iaload, 1) := by decide +kernel
theorem dX12_writes_36 : decode cX12_writes 36 = .ok (.iastore, 1) := by decide +kernel
theorem dX12_writes_37 : decode cX12_writes 37 = .ok (.aload_n 0, 1) := by decide +kernel
theorem dX12_writes_38 : decode cX12_writes 38 = .ok (.getfield 115, 3) := by decide +kernel
theorem dX12_writes_41 : decode cX12_writes 41 = .ok (.iload_n 3, 1) := by decide +kernel
theorem dX12_writes_42 : decode cX12_writes 42 = .ok (.iconst 1, 1) := by decide +kernel
theorem dX12_writes_43 : decode cX12_writes 43 = .ok (.iadd, 1) := by decide +kernel
theorem dX12_writes_44 : decode cX12_writes 44 = .ok (.aload_n 0, 1) := by decide +kernel
theorem dX12_writes_45 : decode cX12_writes 45 = .ok (.getfield 74, 3) := by decide +kernel
theorem dX12_writes_48 : decode cX12_writes 48 = .ok (.iload_n 2, 1) := by decide +kernel
theorem dX12_writes_49 : decode cX12_writes 49 = .ok (.iaload, 1) := by decide +kernel
theorem dX12_writes_50 : decode cX12_writes 50 = .ok (.iastore, 1) := by decide +kernel
theorem dX12_writes_51 : decode cX12_writes 51 = .ok (.aload_n 0, 1) := by decide +kernel
theorem dX12_writes_52 : decode cX12_writes 52 = .ok (.getfield 115, 3) := by decide +kernel
theorem dX12_writes_55 : decode cX12_writes 55 = .ok (.iload_n 3, 1) := by decide +kernel
theorem dX12_writes_56 : decode cX12_writes 56 = .ok (.iconst 2, 1) := by decide +kernel
theorem dX12_writes_57 : decode cX12_writes 57 = .ok (.iadd, 1) := by decide +kernel
theorem dX12_writes_58 : decode cX12_writes 58 = .ok (.aload_n 0, 1) := by decide +kernel
theorem dX12_writes_59 : decode cX12_writes 59 = .ok (.getfield 77, 3) := by decide +kernel
theorem dX12_writes_62 : decode cX12_writes 62 = .ok (.iload_n 2, 1) := by decide +kernel
theorem dX12_writes_63 : decode cX12_writes 63 = .ok (.iaload, 1) := by decide +kernel
theorem dX12_writes_64 : decode cX12_writes 64 = .ok (.iastore, 1) := by decide +kernel
theorem dX12_writes_65 : decode cX12_writes 65 = .ok (.aload_n 0, 1) := by decide +kernel
theorem dX12_writes_66 : decode cX12_writes 66 = .ok (.getfield 115, 3) := by decide +kernel
theorem dX12_writes_69 : decode cX12_writes 69 = .ok (.iload_n 3, 1) := by decide +kernel
theorem dX12_writes_70 : decode cX12_writes 70 = .ok (.iconst 3, 1) := by decide +kernel
theorem dX12_writes_71 : decode cX12_writes 71 = .ok (.iadd, 1) := by decide +kernel
theorem dX12_writes_72 : decode cX12_writes 72 = .ok (.aload_n 0, 1) := by decide +kernel
theorem dX12_writes_73 : decode cX12_writes 73 = .ok (.getfield 80, 3) := by decide +kernel
theorem dX12_writes_76 : decode cX12_writes 76 = .ok (.iload_n 2, 1) := by decide +kernel
theorem dX12_writes_77 : decode cX12_writes 77 = .ok (.iaload, 1) := by decide +kernel
theorem dX12_writes_78 : decode cX12_writes 78 = .ok (.iastore, 1) := by decide +kernel
theorem dX12_writes_79 : decode cX12_writes 79 = .ok (.iinc 2 1, 3) := by decide +kernel
theorem dX12_writes_82 : decode cX12_writes 82 = .ok (.goto (-75), 3) := by decide +kernel
theorem dX12_writes_85 : decode cX12_writes 85 = .ok (.aload_n 0, 1) := by decide +kernel
theorem dX12_writes_86 : decode cX12_writes 86 = .ok (.getfield 118, 3) := by decide +kernel
theorem dX12_writes_89 : decode cX12_writes 89 = .ok (.iload_n 1, 1) := by decide +kernel
theorem dX12_writes_90 : decode cX12_writes 90 = .ok (.aload_n 0, 1) := by decide +kernel
theorem dX12_writes_91 : decode cX12_writes 91 = .ok (.getfield 252, 3) := by decide +kernel
theorem dX12_writes_94 : decode cX12_writes 94 = .ok (.iastore, 1) := by decide +kernel
theorem dX12_writes_95 : decode cX12_writes 95 = .ok (.aload_n 0, 1) := by decide +kernel
theorem dX12_writes_96 : decode cX12_writes 96 = .ok (.getfield 121, 3) := by decide +kernel
theorem dX12_writes_99 : decode cX12_writes 99 = .ok (.iload_n 1, 1) := by decide +kernel
theorem dX12_writes_100 : decode cX12_writes 100 = .ok (.aload_n 0, 1) := by decide +kernel
theorem dX12_writes_101 : decode cX12_writes 101 = .ok (.getfield 255, 3) := by decide +kernel
theorem dX12_writes_104 : decode cX12_writes 104 = .ok (.iastore, 1) := by decide +kernel
theorem dX12_writes_105 : decode cX12_writes 105 = .ok (.aload_n 0, 1) := by decide +kernel
theorem dX12_writes_106 : decode cX12_writes 106 = .ok (.getfield 124, 3) := by decide +kernel
theorem dX12_writes_109 : decode cX12_writes 109 = .ok (.iload_n 1, 1) := by decide +kernel
theorem dX12_writes_110 : decode cX12_writes 110 = .ok (.aload_n 0, 1) := by decide +kernel
theorem dX12_writes_111 : decode cX12_writes 111 = .ok (.getfield 241, 3) := by decide +kernel
theorem dX12_writes_114 : decode cX12_writes 114 = .ok (.ifCond .eq 10, 3) := by decide +kernel
theorem dX12_writes_117 : decode cX12_writes 117 = .ok (.aload_n 0, 1) := by decide +kernel
theorem dX12_writes_118 : decode cX12_writes 118 = .ok (.getfield 245, 3) := by decide +kernel
theorem dX12_writes_121 : decode cX12_writes 121 = .ok (.goto 4, 3) := by decide +kernel
theorem dX12_writes_124 : decode cX12_writes 124 = .ok (.iconst (-1), 1) := by decide +kernel
theorem dX12_writes_125 : decode cX12_writes 125 = .ok (.iastore, 1) := by decide +kernel
theorem dX12_writes_126 : decode cX12_writes 126 = .ok (.iconst 0, 1) := by decide +kernel
theorem dX12_writes_127 : decode cX12_writes 127 = .ok (.istore_n 2, 1) := by decide +kernel
theorem dX12_writes_128 : decode cX12_writes 128 = .ok (.iload_n 2, 1) := by decide +kernel
theorem dX12_writes_129 : decode cX12_writes 129 = .ok (.aload_n 0, 1) := by decide +kernel
theorem dX12_writes_130 : decode cX12_writes 130 = .ok (.getfield 245, 3) := by decide +kernel
theorem dX12_writes_133 : decode cX12_writes 133 = .ok (.if_icmp .ge 75, 3) := by decide +kernel
theorem dX12_writes_136 : decode cX12_writes 136 = .ok (.aload_n 0, 1) := by decide +kernel
theorem dX12_writes_137 : decode cX12_writes 137 = .ok (.getfield 241, 3) := by decide +kernel
theorem dX12_writes_140 : decode cX12_writes 140 = .ok (.ifCond .eq 68, 3) := by decide +kernel
theorem dX12_writes_143 : decode cX12_writes 143 = .ok (.aload_n 0, 1) := by decide +kernel
theorem dX12_writes_144 : decode cX12_writes 144 = .ok (.getfield 128, 3) := by decide +kernel
theorem dX12_writes_147 : decode cX12_writes 147 = .ok (.sipush 1600, 3) := by decide +kernel
theorem dX12_writes_150 : decode cX12_writes 150 = .ok (.iload_n 1, 1) := by decide +kernel
theorem dX12_writes_151 : decode cX12_writes 151 = .ok (.imul, 1) := by decide +kernel
theorem dX12_writes_152 : decode cX12_writes 152 = .ok (.iload_n 2, 1) := by decide +kernel
theorem dX12_writes_153 : decode cX12_writes 153 = .ok (.iadd, 1) := by decide +kernel
theorem dX12_writes_154 : decode cX12_writes 154 = .ok (.aload_n 0, 1) := by decide +kernel
theorem dX12_writes_155 : decode cX12_writes 155 = .ok (.getfield 101, 3) := by decide +kernel
theorem dX12_writes_158 : decode cX12_writes 158 = .ok (.iload_n 2, 1) := by decide +kernel
theorem dX12_writes_159 : decode cX12_writes 159 = .ok (.iaload, 1) := by decide +kernel
theorem dX12_writes_160 : decode cX12_writes 160 = .ok (.i2l, 1) := by decide +kernel
theorem dX12_writes_161 : decode cX12_writes 161 = .ok (.aload_n 0, 1) := by decide +kernel
theorem dX12_writes_162 : decode cX12_writes 162 = .ok (.getfield 104, 3) := by decide +kernel
theorem dX12_writes_165 : decode cX12_writes 165 = .ok (.iload_n 2, 1) := by decide +kernel
theorem dX12_writes_166 : decode cX12_writes 166 = .ok (.iaload, 1) := by decide +kernel
theorem dX12_writes_167 : decode cX12_writes 167 = .ok (.i2l, 1) := by decide +kernel
theorem dX12_writes_168 : decode cX12_writes 168 = .ok (.bipush 16, 2) := by decide +kernel
theorem dX12_writes_170 : decode cX12_writes 170 = .ok (.lshl, 1) := by decide +kernel
theorem dX12_writes_171 : decode cX12_writes 171 = .ok (.lor, 1) := by decide +kernel
theorem dX12_writes_172 : decode cX12_writes 172 = .ok (.aload_n 0, 1) := by decide +kernel
theorem dX12_writes_173 : decode cX12_writes 173 = .ok (.getfield 107, 3) := by decide +kernel
theorem dX12_writes_176 : decode cX12_writes 176 = .ok (.iload_n 2, 1) := by decide +kernel
theorem dX12_writes_177 : decode cX12_writes 177 = .ok (.iaload, 1) := by decide +kernel
theorem dX12_writes_178 : decode cX12_writes 178 = .ok (.i2l, 1) := by decide +kernel
theorem dX12_writes_179 : decode cX12_writes 179 = .ok (.bipush 32, 2) := by decide +kernel
theorem dX12_writes_181 : decode cX12_writes 181 = .ok (.lshl, 1) := by decide +kernel
theorem dX12_writes_182 : decode cX12_writes 182 = .ok (.lor, 1) := by decide +kernel
theorem dX12_writes_183 : decode cX12_writes 183 = .ok (.lastore, 1) := by decide +kernel
theorem dX12_writes_184 : decode cX12_writes 184 = .ok (.aload_n 0, 1) := by decide +kernel
theorem dX12_writes_185 : decode cX12_writes 185 = .ok (.getfield 131, 3) := by decide +kernel
theorem dX12_writes_188 : decode cX12_writes 188 = .ok (.sipush 1600, 3) := by decide +kernel
theorem dX12_writes_191 : decode cX12_writes 191 = .ok (.iload_n 1, 1) := by decide +kernel
theorem dX12_writes_192 : decode cX12_writes 192 = .ok (.imul, 1) := by decide +kernel
theorem dX12_writes_193 : decode cX12_writes 193 = .ok (.iload_n 2, 1) := by decide +kernel
theorem dX12_writes_194 : decode cX12_writes 194 = .ok (.iadd, 1) := by decide +kernel
theorem dX12_writes_195 : decode cX12_writes 195 = .ok (.aload_n 0, 1) := by decide +kernel
theorem dX12_writes_196 : decode cX12_writes 196 = .ok (.getfield 110, 3) := by decide +kernel
theorem dX12_writes_199 : decode cX12_writes 199 = .ok (.iload_n 2, 1) := by decide +kernel
theorem dX12_writes_200 : decode cX12_writes 200 = .ok (.laload, 1) := by decide +kernel
theorem dX12_writes_201 : decode cX12_writes 201 = .ok (.lastore, 1) := by decide +kernel
theorem dX12_writes_202 : decode cX12_writes 202 = .ok (.iinc 2 1, 3) := by decide +kernel
theorem dX12_writes_205 : decode cX12_writes 205 = .ok (.goto (-77), 3) := by decide +kernel
theorem dX12_writes_208 : decode cX12_writes 208 = .ok (.return_, 1) := by decide +kernel
abbrev rm_f_X12_writes : Room := { frames := 0, cells := 0, slots := 0, locals := 0 }
def f_X12_writes_L7 (K5 : (St → Option (St))) (y2 : Int) : Nat → Int → St → Option (St)
  | 0, _, _ => none
  | n9 + 1, x3, t4 =>
    lt1 (t4.1 200 37) fun v6 =>
    cmpI x3 v6 (if x3 < v6 then (ixI x3 64 (lt1 (t4.1 38 x3.toNat) fun v7 =>
    ixI ((256 * y2) + (4 * x3)) 51456 (lt1 (pI t4 61 ((256 * y2) + (4 * x3)).toNat v7) fun t8 =>
    ixI x3 64 (lt1 (t8.1 39 x3.toNat) fun v9 =>
    ixI (((256 * y2) + (4 * x3)) + 1) 51456 (lt1 (pI t8 61 (((256 * y2) + (4 * x3)) + 1).toNat v9) fun t10 =>
    ixI x3 64 (lt1 (t10.1 40 x3.toNat) fun v11 =>
    ixI (((256 * y2) + (4 * x3)) + 2) 51456 (lt1 (pI t10 61 (((256 * y2) + (4 * x3)) + 2).toNat v11) fun t12 =>
    ixI x3 64 (lt1 (t12.1 41 x3.toNat) fun v13 =>
    ixI (((256 * y2) + (4 * x3)) + 3) 51456 (lt1 (pI t12 61 (((256 * y2) + (4 * x3)) + 3).toNat v13) fun t14 =>
    f_X12_writes_L7 K5 y2 n9 (x3 + 1) t14)))))))))
    else (K5 t4))
def f_X12_writes_L128 (K28 : (St → Option (St))) (y25 : Int) : Nat → Int → St → Option (St)
  | 0, _, _ => none
  | n9 + 1, x26, t27 =>
    lt1 (t27.1 200 51) fun v29 =>
    cmpI x26 v29 (if x26 < v29 then (lt1 (t27.1 200 50) fun v30 =>
    cmpI v30 0 (if v30 = 0 then (K28 t27)
    else (ixI x26 1600 (lt1 (t27.1 55 x26.toNat) fun v31 =>
    rnI v31 (
    ixI x26 1600 (lt1 (t27.1 56 x26.toNat) fun v32 =>
    rnI v32 (
    ixI x26 1600 (lt1 (t27.1 57 x26.toNat) fun v33 =>
    rnI v33 (
    ixI ((1600 * y25) + x26) 321600 (lt1 (pL t27 65 ((1600 * y25) + x26).toNat (((Int64.ofInt v31) ||| (shlL (Int64.ofInt v32) 16)) ||| (shlL (Int64.ofInt v33) 32))) fun t34 =>
    ixI x26 1600 (lt1 (t34.2 58 x26.toNat) fun v35 =>
    ixI ((1600 * y25) + x26) 321600 (lt1 (pL t34 66 ((1600 * y25) + x26).toNat v35) fun t36 =>
    f_X12_writes_L128 K28 y25 n9 (x26 + 1) t36))))))))))))
    else (K28 t27))
def f_X12_writes (N : Nat) (t : St) : Option (St) :=
    lt1 (t.1 200 60) fun v1 =>
    f_X12_writes_L7 (fun (t15 : St) => lt1 (t15.1 200 42) fun v16 =>
    ixI v1 201 (lt1 (pI t15 62 v1.toNat v16) fun t17 =>
    lt1 (t17.1 200 43) fun v18 =>
    ixI v1 201 (lt1 (pI t17 63 v1.toNat v18) fun t19 =>
    lt1 (t19.1 200 50) fun v20 =>
    jn1 (fun (j21 : Int) (t22 : St) => ixI v1 201 (lt1 (pI t22 64 v1.toNat j21) fun t24 =>
    f_X12_writes_L128 (fun (t37 : St) => some t37) v1 N 0 t24)) fun J23 =>
    cmpI v20 0 (if v20 = 0 then (J23 (-1) t19)
    else (lt1 (t19.1 200 51) fun v38 =>
    J23 v38 t19))))) v1 N 0 t
set_option maxHeartbeats 4000000 in
set_option maxRecDepth 100000 in
theorem t_f_X12_writes_L7 {p : Program} {l : Launch} {e : Env} {s : State} {m : MethodId} {args : Array Value} {below : List Frame} {meth : Method} {c : Code} {E : cE} {A : Nat → Prop} {r : Nat → Nat} {mc ms : Nat} {z : St} {K5 : (St → Option (St))} {y2 : Int} (X : gX p s m meth c cX12_writes 4 none yX12_writes args E A) (hK5 : ∀ (t9 : St), K5 t9 = some z → gP p l e rm_f_X12_writes s m args below meth c E A 4 (MQ below ((gqV E (gW E r shM) z) A) args s mc ms A) (gW E r shM) 85 [(0, .ref (r 200)), (1, iv y2)] [] t9) : ∀ (n9 : Nat) (x3 : Int) (t4 : St), f_X12_writes_L7 K5 y2 n9 x3 t4 = some z → gP p l e rm_f_X12_writes s m args below meth c E A 4 (MQ below ((gqV E (gW E r shM) z) A) args s mc ms A) (gW E r shM) 7 [(0, .ref (r 200)), (1, iv y2), (2, iv x3)] [] t4 := by
  intro n9
  induction n9 with
  | zero => intro x3 t4 h; cases h
  | succ n9 ih =>
    intro x3 t4 h
    unfold f_X12_writes_L7 at h
    refine g_iload_n X dX12_writes_7 2 rfl ?_
    refine g_aload_n X dX12_writes_8 0 rfl ?_
    refine g_getI X fM_37 rfl dX12_writes_9 h (fun v6 h => ?_)
    refine g_icmp_ge (tgt := 85) X dX12_writes_12 (by decide) h (fun h => ?_) (fun h => ?_)
    · exact g_sub (lv' := [(0, .ref (r 200)), (1, iv y2)]) [0, 1] rfl (hK5 t4 h)
    · refine g_sipush X dX12_writes_15 (by decide) ?_
      refine g_iload_n X dX12_writes_18 1 rfl ?_
      refine g_imul X dX12_writes_19 ?_
      refine g_iconst X dX12_writes_20 ?_
      refine g_iload_n X dX12_writes_21 2 rfl ?_
      refine g_imul X dX12_writes_22 ?_
      refine g_iadd X dX12_writes_23 ?_
      refine g_istore_n (lv' := [(3, iv ((256 * y2) + (4 * x3))), (0, .ref (r 200)), (1, iv y2), (2, iv x3)]) X dX12_writes_24 rfl (by decide) rfl ?_
      refine g_aload_n X dX12_writes_25 1 rfl ?_
      refine g_getR X fM_61 rfl dX12_writes_26 ?_
      refine g_iload_n X dX12_writes_29 0 rfl ?_
      refine g_aload_n X dX12_writes_30 1 rfl ?_
      refine g_getR X fM_38 rfl dX12_writes_31 ?_
      refine g_iload_n X dX12_writes_34 3 rfl ?_
      refine g_iald X aM_38 dX12_writes_35 h (fun v7 h => ?_)
      refine g_iast X aM_61 dX12_writes_36 h (fun t8 h => ?_)
      refine g_aload_n X dX12_writes_37 1 rfl ?_
      refine g_getR X fM_61 rfl dX12_writes_38 ?_
      refine g_iload_n X dX12_writes_41 0 rfl ?_
      refine g_iconst X dX12_writes_42 ?_
      refine g_iadd X dX12_writes_43 ?_
      refine g_aload_n X dX12_writes_44 1 rfl ?_
      refine g_getR X fM_39 rfl dX12_writes_45 ?_
      refine g_iload_n X dX12_writes_48 3 rfl ?_
      refine g_iald X aM_39 dX12_writes_49 h (fun v9 h => ?_)
      refine g_iast X aM_61 dX12_writes_50 h (fun t10 h => ?_)
      refine g_aload_n X dX12_writes_51 1 rfl ?_
      refine g_getR X fM_61 rfl dX12_writes_52 ?_
      refine g_iload_n X dX12_writes_55 0 rfl ?_
      refine g_iconst X dX12_writes_56 ?_
      refine g_iadd X dX12_writes_57 ?_
      refine g_aload_n X dX12_writes_58 1 rfl ?_
      refine g_getR X fM_40 rfl dX12_writes_59 ?_
      refine g_iload_n X dX12_writes_62 3 rfl ?_
      refine g_iald X aM_40 dX12_writes_63 h (fun v11 h => ?_)
      refine g_iast X aM_61 dX12_writes_64 h (fun t12 h => ?_)
      refine g_aload_n X dX12_writes_65 1 rfl ?_
      refine g_getR X fM_61 rfl dX12_writes_66 ?_
      refine g_iload_n X dX12_writes_69 0 rfl ?_
      refine g_iconst X dX12_writes_70 ?_
      refine g_iadd X dX12_writes_71 ?_
      refine g_aload_n X dX12_writes_72 1 rfl ?_
      refine g_getR X fM_41 rfl dX12_writes_73 ?_
      refine g_iload_n X dX12_writes_76 3 rfl ?_
      refine g_iald X aM_41 dX12_writes_77 h (fun v13 h => ?_)
      refine g_iast X aM_61 dX12_writes_78 h (fun t14 h => ?_)
      refine g_iinc (lv' := [(2, iv (x3 + 1)), (3, iv ((256 * y2) + (4 * x3))), (0, .ref (r 200)), (1, iv y2)]) X dX12_writes_79 (k := 3) rfl (by decide) rfl ?_
      refine g_goto (tgt := 7) X dX12_writes_82 (by decide) ?_
      exact g_sub (lv' := [(0, .ref (r 200)), (1, iv y2), (2, iv (x3 + 1))]) [2, 3, 0] rfl (ih (x3 + 1) t14 h)
set_option maxHeartbeats 4000000 in
set_option maxRecDepth 100000 in
theorem t_f_X12_writes_L128 {p : Program} {l : Launch} {e : Env} {s : State} {m : MethodId} {args : Array Value} {below : List Frame} {meth : Method} {c : Code} {E : cE} {A : Nat → Prop} {r : Nat → Nat} {mc ms : Nat} {z : St} {K28 : (St → Option (St))} {y25 : Int} (X : gX p s m meth c cX12_writes 4 none yX12_writes args E A) (hK28 : ∀ (t9 : St), K28 t9 = some z → gP p l e rm_f_X12_writes s m args below meth c E A 4 (MQ below ((gqV E (gW E r shM) z) A) args s mc ms A) (gW E r shM) 208 [] [] t9) : ∀ (n9 : Nat) (x26 : Int) (t27 : St), f_X12_writes_L128 K28 y25 n9 x26 t27 = some z → gP p l e rm_f_X12_writes s m args below meth c E A 4 (MQ below ((gqV E (gW E r shM) z) A) args s mc ms A) (gW E r shM) 128 [(0, .ref (r 200)), (1, iv y25), (2, iv x26)] [] t27 := by
  intro n9
  induction n9 with
  | zero => intro x26 t27 h; cases h
  | succ n9 ih =>
    intro x26 t27 h
    unfold f_X12_writes_L128 at h
    refine g_iload_n X dX12_writes_128 2 rfl ?_
    refine g_aload_n X dX12_writes_129 0 rfl ?_
    refine g_getI X fM_51 rfl dX12_writes_130 h (fun v29 h => ?_)
    refine g_icmp_ge (tgt := 208) X dX12_writes_133 (by decide) h (fun h => ?_) (fun h => ?_)
    · exact g_sub (lv' := []) [] rfl (hK28 t27 h)
    · refine g_aload_n X dX12_writes_136 0 rfl ?_
      refine g_getI X fM_50 rfl dX12_writes_137 h (fun v30 h => ?_)
      refine g_if_eq (tgt := 208) X dX12_writes_140 (by decide) h (fun h => ?_) (fun h => ?_)
      · exact g_sub (lv' := []) [] rfl (hK28 t27 h)
      · refine g_aload_n X dX12_writes_143 0 rfl ?_
        refine g_getR X fM_65 rfl dX12_writes_144 ?_
        refine g_sipush X dX12_writes_147 (by decide) ?_
        refine g_iload_n X dX12_writes_150 1 rfl ?_
        refine g_imul X dX12_writes_151 ?_
        refine g_iload_n X dX12_writes_152 2 rfl ?_
        refine g_iadd X dX12_writes_153 ?_
        refine g_aload_n X dX12_writes_154 0 rfl ?_
        refine g_getR X fM_55 rfl dX12_writes_155 ?_
        refine g_iload_n X dX12_writes_158 2 rfl ?_
        refine g_iald X aM_55 dX12_writes_159 h (fun v31 h => ?_)
        refine g_i2l X dX12_writes_160 h (fun h => ?_)
        refine g_aload_n X dX12_writes_161 0 rfl ?_
        refine g_getR X fM_56 rfl dX12_writes_162 ?_
        refine g_iload_n X dX12_writes_165 2 rfl ?_
        refine g_iald X aM_56 dX12_writes_166 h (fun v32 h => ?_)
        refine g_i2l X dX12_writes_167 h (fun h => ?_)
        refine g_bipush X dX12_writes_168 (by decide) ?_
        refine g_lshl X dX12_writes_170 ?_
        refine g_lor X dX12_writes_171 ?_
        refine g_aload_n X dX12_writes_172 0 rfl ?_
        refine g_getR X fM_57 rfl dX12_writes_173 ?_
        refine g_iload_n X dX12_writes_176 2 rfl ?_
        refine g_iald X aM_57 dX12_writes_177 h (fun v33 h => ?_)
        refine g_i2l X dX12_writes_178 h (fun h => ?_)
        refine g_bipush X dX12_writes_179 (by decide) ?_
        refine g_lshl X dX12_writes_181 ?_
        refine g_lor X dX12_writes_182 ?_
        refine g_last X aM_65 dX12_writes_183 h (fun t34 h => ?_)
        refine g_aload_n X dX12_writes_184 0 rfl ?_
        refine g_getR X fM_66 rfl dX12_writes_185 ?_
        refine g_sipush X dX12_writes_188 (by decide) ?_
        refine g_iload_n X dX12_writes_191 1 rfl ?_
        refine g_imul X dX12_writes_192 ?_
        refine g_iload_n X dX12_writes_193 2 rfl ?_
        refine g_iadd X dX12_writes_194 ?_
        refine g_aload_n X dX12_writes_195 0 rfl ?_
        refine g_getR X fM_58 rfl dX12_writes_196 ?_
        refine g_iload_n X dX12_writes_199 2 rfl ?_
        refine g_lald X aM_58 dX12_writes_200 h (fun v35 h => ?_)
        refine g_last X aM_66 dX12_writes_201 h (fun t36 h => ?_)
        refine g_iinc (lv' := [(2, iv (x26 + 1)), (0, .ref (r 200)), (1, iv y25)]) X dX12_writes_202 (k := 2) rfl (by decide) rfl ?_
        refine g_goto (tgt := 128) X dX12_writes_205 (by decide) ?_
        exact g_sub (lv' := [(0, .ref (r 200)), (1, iv y25), (2, iv (x26 + 1))]) [1, 2, 0] rfl (ih (x26 + 1) t36 h)
set_option maxHeartbeats 4000000 in
set_option maxRecDepth 100000 in
theorem b_f_X12_writes {p : Program} {l : Launch} {e : Env} {s : State} {m : MethodId} {args : Array Value} {below : List Frame} {meth : Method} {c : Code} {E : cE} {A : Nat → Prop} {r : Nat → Nat} {mc ms : Nat} {z : St} {N : Nat} {t : St} (X : gX p s m meth c cX12_writes 4 none yX12_writes args E A) (h : f_X12_writes N t = some z) : gP p l e rm_f_X12_writes s m args below meth c E A 4 (MQ below ((gqV E (gW E r shM) z) A) args s mc ms A) (gW E r shM) 0 [(0, .ref (r 200))] [] t := by
  unfold f_X12_writes at h
  refine g_aload_n X dX12_writes_0 0 rfl ?_
  refine g_getI X fM_60 rfl dX12_writes_1 h (fun v1 h => ?_)
  refine g_istore_n (lv' := [(1, iv v1), (0, .ref (r 200))]) X dX12_writes_4 rfl (by decide) rfl ?_
  refine g_iconst X dX12_writes_5 ?_
  refine g_istore_n (lv' := [(2, iv 0), (1, iv v1), (0, .ref (r 200))]) X dX12_writes_6 rfl (by decide) rfl ?_
  refine g_sub (lv' := [(0, .ref (r 200)), (1, iv v1), (2, iv 0)]) [2, 1, 0] rfl (t_f_X12_writes_L7 X (fun t15 h => ?_) N 0 t h)
  · refine g_aload_n X dX12_writes_85 0 rfl ?_
    refine g_getR X fM_62 rfl dX12_writes_86 ?_
    refine g_iload_n X dX12_writes_89 1 rfl ?_
    refine g_aload_n X dX12_writes_90 0 rfl ?_
    refine g_getI X fM_42 rfl dX12_writes_91 h (fun v16 h => ?_)
    refine g_iast X aM_62 dX12_writes_94 h (fun t17 h => ?_)
    refine g_aload_n X dX12_writes_95 0 rfl ?_
    refine g_getR X fM_63 rfl dX12_writes_96 ?_
    refine g_iload_n X dX12_writes_99 1 rfl ?_
    refine g_aload_n X dX12_writes_100 0 rfl ?_
    refine g_getI X fM_43 rfl dX12_writes_101 h (fun v18 h => ?_)
    refine g_iast X aM_63 dX12_writes_104 h (fun t19 h => ?_)
    refine g_aload_n X dX12_writes_105 0 rfl ?_
    refine g_getR X fM_64 rfl dX12_writes_106 ?_
    refine g_iload_n X dX12_writes_109 1 rfl ?_
    refine g_aload_n X dX12_writes_110 0 rfl ?_
    refine g_getI X fM_50 rfl dX12_writes_111 h (fun v20 h => ?_)
    refine g_join (J := fun jj => ∀ (j21 : Int) (t22 : St), jj j21 t22 = some z → gP p l e rm_f_X12_writes s m args below meth c E A 4 (MQ below ((gqV E (gW E r shM) z) A) args s mc ms A) (gW E r shM) 125 [(0, .ref (r 200)), (1, iv v1)] [iv j21, iv v1, .ref (r 64)] t22) h (fun j21 t22 h => ?_) (fun J23 hJ23 h => ?_)
    · refine g_iast X aM_64 dX12_writes_125 h (fun t24 h => ?_)
      refine g_iconst X dX12_writes_126 ?_
      refine g_istore_n (lv' := [(2, iv 0), (0, .ref (r 200)), (1, iv v1)]) X dX12_writes_127 rfl (by decide) rfl ?_
      refine g_sub (lv' := [(0, .ref (r 200)), (1, iv v1), (2, iv 0)]) [1, 2, 0] rfl (t_f_X12_writes_L128 X (fun t37 h => ?_) N 0 t24 h)
      · exact g_vret X h dX12_writes_208
    refine g_if_eq (tgt := 124) X dX12_writes_114 (by decide) h (fun h => ?_) (fun h => ?_)
    · refine g_iconst X dX12_writes_124 ?_
      exact g_sub (lv' := [(0, .ref (r 200)), (1, iv v1)]) [0, 1] rfl (hJ23 (-1) t19 h)
    · refine g_aload_n X dX12_writes_117 0 rfl ?_
      refine g_getI X fM_51 rfl dX12_writes_118 h (fun v38 h => ?_)
      refine g_goto (tgt := 125) X dX12_writes_121 (by decide) ?_
      exact g_sub (lv' := [(0, .ref (r 200)), (1, iv v1)]) [0, 1] rfl (hJ23 v38 t19 h)
set_option maxHeartbeats 4000000 in
set_option maxRecDepth 100000 in
theorem cp_X12_writes (l : Launch) (E : cE) (r : Nat → Nat) (N : Nat) (t : St) (z : St) (h : f_X12_writes N t = some z) : cM l E yX12_writes cX12_writes 4 none rm_f_X12_writes [.ref (r 200)] (gW E r shM t) (gqV E (gW E r shM) z) := by
  refine g_of (w := gW E r shM) (by decide) (Nat.le_of_ble_eq_true rfl) ?_
  intro p e s m below meth c A X
  exact g_sub (lv' := [(0, .ref (r 200))]) [0] rfl (b_f_X12_writes X h)
theorem yy_X12_writes : cY yX12_writes cX12_writes 4 none 0 := ⟨wdK_X12_writes, wdZ_RX12, by decide +kernel⟩
theorem yi_X12_writes : cYi yX12_writes := ⟨wdN_X12_writes, wdS_X12_writes⟩
theorem dX12_keeps_0 : decode cX12_keeps 0 = .ok (.aload_n 0, 1) := by decide +kernel
theorem dX12_keeps_1 : decode cX12_keeps 1 = .ok (.aload_n 0, 1) := by decide +kernel
theorem dX12_keeps_2 : decode cX12_keeps 2 = .ok (.getfield 569, 3) := by decide +kernel
theorem dX12_keeps_5 : decode cX12_keeps 5 = .ok (.iconst 1, 1) := by decide +kernel
theorem dX12_keeps_6 : decode cX12_keeps 6 = .ok (.iadd, 1) := by decide +kernel
theorem dX12_keeps_7 : decode cX12_keeps 7 = .ok (.sipush 201, 3) := by decide +kernel
theorem dX12_keeps_10 : decode cX12_keeps 10 = .ok (.irem, 1) := by decide +kernel
theorem dX12_keeps_11 : decode cX12_keeps 11 = .ok (.putfield 569, 3) := by decide +kernel
theorem dX12_keeps_14 : decode cX12_keeps 14 = .ok (.aload_n 0, 1) := by decide +kernel
theorem dX12_keeps_15 : decode cX12_keeps 15 = .ok (.dup, 1) := by decide +kernel
theorem dX12_keeps_16 : decode cX12_keeps 16 = .ok (.getfield 238, 3) := by decide +kernel
theorem dX12_keeps_19 : decode cX12_keeps 19 = .ok (.aload_n 0, 1) := by decide +kernel
theorem dX12_keeps_20 : decode cX12_keeps 20 = .ok (.getfield 238, 3) := by decide +kernel
theorem dX12_keeps_23 : decode cX12_keeps 23 = .ok (.sipush 200, 3) := by decide +kernel
theorem dX12_keeps_26 : decode cX12_keeps 26 = .ok (.if_icmp .ge 7, 3) := by decide +kernel
theorem dX12_keeps_29 : decode cX12_keeps 29 = .ok (.iconst 1, 1) := by decide +kernel
theorem dX12_keeps_30 : decode cX12_keeps 30 = .ok (.goto 4, 3) := by decide +kernel
theorem dX12_keeps_33 : decode cX12_keeps 33 = .ok (.iconst 0, 1) := by decide +kernel
theorem dX12_keeps_34 : decode cX12_keeps 34 = .ok (.iadd, 1) := by decide +kernel
theorem dX12_keeps_35 : decode cX12_keeps 35 = .ok (.putfield 238, 3) := by decide +kernel
theorem dX12_keeps_38 : decode cX12_keeps 38 = .ok (.return_, 1) := by decide +kernel
abbrev rm_f_X12_keeps : Room := { frames := 0, cells := 0, slots := 0, locals := 0 }
def f_X12_keeps (N : Nat) (t : St) : Option (St) :=
    lt1 (t.1 200 60) fun v1 =>
    dvI (v1 + 1) 201 (
    lt1 (pI t 200 60 ((v1 + 1) % 201)) fun t2 =>
    lt1 (t2.1 200 59) fun v3 =>
    lt1 (t2.1 200 59) fun v4 =>
    cmpI v4 200 (if v4 < 200 then (lt1 (pI t2 200 59 (v3 + 1)) fun t6 =>
    some t6)
    else (lt1 (pI t2 200 59 (v3 + 0)) fun t5 =>
    some t5)))
set_option maxHeartbeats 4000000 in
set_option maxRecDepth 100000 in
theorem b_f_X12_keeps {p : Program} {l : Launch} {e : Env} {s : State} {m : MethodId} {args : Array Value} {below : List Frame} {meth : Method} {c : Code} {E : cE} {A : Nat → Prop} {r : Nat → Nat} {mc ms : Nat} {z : St} {N : Nat} {t : St} (X : gX p s m meth c cX12_keeps 1 none yX12_keeps args E A) (h : f_X12_keeps N t = some z) : gP p l e rm_f_X12_keeps s m args below meth c E A 1 (MQ below ((gqV E (gW E r shM) z) A) args s mc ms A) (gW E r shM) 0 [(0, .ref (r 200))] [] t := by
  unfold f_X12_keeps at h
  refine g_aload_n X dX12_keeps_0 0 rfl ?_
  refine g_aload_n X dX12_keeps_1 0 rfl ?_
  refine g_getI X fM_60 rfl dX12_keeps_2 h (fun v1 h => ?_)
  refine g_iconst X dX12_keeps_5 ?_
  refine g_iadd X dX12_keeps_6 ?_
  refine g_sipush X dX12_keeps_7 (by decide) ?_
  refine g_irem X dX12_keeps_10 h (fun h => ?_)
  refine g_putI X fM_60w rfl dX12_keeps_11 h (fun t2 h => ?_)
  refine g_aload_n X dX12_keeps_14 0 rfl ?_
  refine g_dup X rfl dX12_keeps_15 ?_
  refine g_getI X fM_59 rfl dX12_keeps_16 h (fun v3 h => ?_)
  refine g_aload_n X dX12_keeps_19 0 rfl ?_
  refine g_getI X fM_59 rfl dX12_keeps_20 h (fun v4 h => ?_)
  refine g_sipush X dX12_keeps_23 (by decide) ?_
  refine g_icmp_ge (tgt := 33) X dX12_keeps_26 (by decide) h (fun h => ?_) (fun h => ?_)
  · refine g_iconst X dX12_keeps_33 ?_
    refine g_iadd X dX12_keeps_34 ?_
    refine g_putI X fM_59w rfl dX12_keeps_35 h (fun t5 h => ?_)
    exact g_vret X h dX12_keeps_38
  · refine g_iconst X dX12_keeps_29 ?_
    refine g_goto (tgt := 34) X dX12_keeps_30 (by decide) ?_
    refine g_iadd X dX12_keeps_34 ?_
    refine g_putI X fM_59w rfl dX12_keeps_35 h (fun t6 h => ?_)
    exact g_vret X h dX12_keeps_38
set_option maxHeartbeats 4000000 in
set_option maxRecDepth 100000 in
theorem cp_X12_keeps (l : Launch) (E : cE) (r : Nat → Nat) (N : Nat) (t : St) (z : St) (h : f_X12_keeps N t = some z) : cM l E yX12_keeps cX12_keeps 1 none rm_f_X12_keeps [.ref (r 200)] (gW E r shM t) (gqV E (gW E r shM) z) := by
  refine g_of (w := gW E r shM) (by decide) (Nat.le_of_ble_eq_true rfl) ?_
  intro p e s m below meth c A X
  exact g_sub (lv' := [(0, .ref (r 200))]) [0] rfl (b_f_X12_keeps X h)
theorem yy_X12_keeps : cY yX12_keeps cX12_keeps 1 none 0 := ⟨wdK_X12_keeps, wdZ_RX12, by decide +kernel⟩
theorem yi_X12_keeps : cYi yX12_keeps := ⟨wdN_X12_keeps, wdS_X12_keeps⟩
theorem dX12_back_0 : decode cX12_back 0 = .ok (.iload_n 1, 1) := by decide +kernel
theorem dX12_back_1 : decode cX12_back 1 = .ok (.ifCond .lt 11, 3) := by decide +kernel
theorem dX12_back_4 : decode cX12_back 4 = .ok (.iload_n 1, 1) := by decide +kernel
theorem dX12_back_5 : decode cX12_back 5 = .ok (.aload_n 0, 1) := by decide +kernel
theorem dX12_back_6 : decode cX12_back 6 = .ok (.getfield 238, 3) := by decide +kernel
theorem dX12_back_9 : decode cX12_back 9 = .ok (.if_icmp .le 5, 3) := by decide +kernel
theorem dX12_back_12 : decode cX12_back 12 = .ok (.iconst 0, 1) := by decide +kernel
theorem dX12_back_13 : decode cX12_back 13 = .ok (.ireturn, 1) := by decide +kernel
theorem dX12_back_14 : decode cX12_back 14 = .ok (.iload_n 1, 1) := by decide +kernel
theorem dX12_back_15 : decode cX12_back 15 = .ok (.ifCond .ne 5, 3) := by decide +kernel
theorem dX12_back_18 : decode cX12_back 18 = .ok (.iconst 1, 1) := by decide +kernel
theorem dX12_back_19 : decode cX12_back 19 = .ok (.ireturn, 1) := by decide +kernel
theorem dX12_back_20 : decode cX12_back 20 = .ok (.aload_n 0, 1) := by decide +kernel
theorem dX12_back_21 : decode cX12_back 21 = .ok (.aload_n 0, 1) := by decide +kernel
theorem dX12_back_22 : decode cX12_back 22 = .ok (.getfield 569, 3) := by decide +kernel
theorem dX12_back_25 : decode cX12_back 25 = .ok (.sipush 201, 3) := by decide +kernel
theorem dX12_back_28 : decode cX12_back 28 = .ok (.iadd, 1) := by decide +kernel
theorem dX12_back_29 : decode cX12_back 29 = .ok (.iload_n 1, 1) := by decide +kernel
theorem dX12_back_30 : decode cX12_back 30 = .ok (.isub, 1) := by decide +kernel
theorem dX12_back_31 : decode cX12_back 31 = .ok (.sipush 201, 3) := by decide +kernel
theorem dX12_back_34 : decode cX12_back 34 = .ok (.irem, 1) := by decide +kernel
theorem dX12_back_35 : decode cX12_back 35 = .ok (.putfield 569, 3) := by decide +kernel
theorem dX12_back_38 : decode cX12_back 38 = .ok (.aload_n 0, 1) := by decide +kernel
theorem dX12_back_39 : decode cX12_back 39 = .ok (.dup, 1) := by decide +kernel
theorem dX12_back_40 : decode cX12_back 40 = .ok (.getfield 238, 3) := by decide +kernel
theorem dX12_back_43 : decode cX12_back 43 = .ok (.iload_n 1, 1) := by decide +kernel
theorem dX12_back_44 : decode cX12_back 44 = .ok (.isub, 1) := by decide +kernel
theorem dX12_back_45 : decode cX12_back 45 = .ok (.putfield 238, 3) := by decide +kernel
theorem dX12_back_48 : decode cX12_back 48 = .ok (.aload_n 0, 1) := by decide +kernel
theorem dX12_back_49 : decode cX12_back 49 = .ok (.getfield 569, 3) := by decide +kernel
theorem dX12_back_52 : decode cX12_back 52 = .ok (.istore_n 2, 1) := by decide +kernel
theorem dX12_back_53 : decode cX12_back 53 = .ok (.iconst 0, 1) := by decide +kernel
theorem dX12_back_54 : decode cX12_back 54 = .ok (.istore_n 3, 1) := by decide +kernel
theorem dX12_back_55 : decode cX12_back 55 = .ok (.iload_n 3, 1) := by decide +kernel
theorem dX12_back_56 : decode cX12_back 56 = .ok (.aload_n 0, 1) := by decide +kernel
theorem dX12_back_57 : decode cX12_back 57 = .ok (.getfield 231, 3) := by decide +kernel
theorem dX12_back_60 : decode cX12_back 60 = .ok (.if_icmp .ge 78, 3) := by decide +kernel
theorem dX12_back_63 : decode cX12_back 63 = .ok (.sipush 256, 3) := by decide +kernel
theorem dX12_back_66 : decode cX12_back 66 = .ok (.iload_n 2, 1) := by decide +kernel
theorem dX12_back_67 : decode cX12_back 67 = .ok (.imul, 1) := by decide +kernel
theorem dX12_back_68 : decode cX12_back 68 = .ok (.iconst 4, 1) := by decide +kernel
theorem dX12_back_69 : decode cX12_back 69 = .ok (.iload_n 3, 1) := by decide +kernel
theorem dX12_back_70 : decode cX12_back 70 = .ok (.imul, 1) := by decide +kernel
theorem dX12_back_71 : decode cX12_back 71 = .ok (.iadd, 1) := by decide +kernel
theorem dX12_back_72 : decode cX12_back 72 = .ok (.istore 4, 2) := by decide +kernel
theorem dX12_back_74 : decode cX12_back 74 = .ok (.aload_n 0, 1) := by decide +kernel
theorem dX12_back_75 : decode cX12_back 75 = .ok (.getfield 71, 3) := by decide +kernel
theorem dX12_back_78 : decode cX12_back 78 = .ok (.iload_n 3, 1) := by decide +kernel
theorem dX12_back_79 : decode cX12_back 79 = .ok (.aload_n 0, 1) := by decide +kernel
theorem dX12_back_80 : decode cX12_back 80 = .ok (.getfield 115, 3) := by decide +kernel
theorem dX12_back_83 : decode cX12_back 83 = .ok (.iload 4, 2) := by decide +kernel
theorem dX12_back_85 : decode cX12_back 85 = .ok (.iaload, 1) := by decide +kernel
theorem dX12_back_86 : decode cX12_back 86 = .ok (.iastore, 1) := by decide +kernel
theorem dX12_back_87 : decode cX12_back 87 = .ok (.aload_n 0, 1) := by decide +kernel
theorem dX12_back_88 : decode cX12_back 88 = .ok (.getfield 74, 3) := by decide +kernel
theorem dX12_back_91 : decode cX12_back 91 = .ok (.iload_n 3, 1) := by decide +kernel
theorem dX12_back_92 : decode cX12_back 92 = .ok (.aload_n 0, 1) := by decide +kernel
theorem dX12_back_93 : decode cX12_back 93 = .ok (.getfield 115, 3) := by decide +kernel
theorem dX12_back_96 : decode cX12_back 96 = .ok (.iload 4, 2) := by decide +kernel
theorem dX12_back_98 : decode cX12_back 98 = .ok (.iconst 1, 1) := by decide +kernel
theorem dX12_back_99 : decode cX12_back 99 = .ok (.iadd, 1) := by decide +kernel
theorem dX12_back_100 : decode cX12_back 100 = .ok (.iaload, 1) := by decide +kernel
theorem dX12_back_101 : decode cX12_back 101 = .ok (.iastore, 1) := by decide +kernel
theorem dX12_back_102 : decode cX12_back 102 = .ok (.aload_n 0, 1) := by decide +kernel
theorem dX12_back_103 : decode cX12_back 103 = .ok (.getfield 77, 3) := by decide +kernel
theorem dX12_back_106 : decode cX12_back 106 = .ok (.iload_n 3, 1) := by decide +kernel
theorem dX12_back_107 : decode cX12_back 107 = .ok (.aload_n 0, 1) := by decide +kernel
theorem dX12_back_108 : decode cX12_back 108 = .ok (.getfield 115, 3) := by decide +kernel
theorem dX12_back_111 : decode cX12_back 111 = .ok (.iload 4, 2) := by decide +kernel
theorem dX12_back_113 : decode cX12_back 113 = .ok (.iconst 2, 1) := by decide +kernel
theorem dX12_back_114 : decode cX12_back 114 = .ok (.iadd, 1) := by decide +kernel
theorem dX12_back_115 : decode cX12_back 115 = .ok (.iaload, 1) := by decide +kernel
theorem dX12_back_116 : decode cX12_back 116 = .ok (.iastore, 1) := by decide +kernel
theorem dX12_back_117 : decode cX12_back 117 = .ok (.aload_n 0, 1) := by decide +kernel
theorem dX12_back_118 : decode cX12_back 118 = .ok (.getfield 80, 3) := by decide +kernel
theorem dX12_back_121 : decode cX12_back 121 = .ok (.iload_n 3, 1) := by decide +kernel
theorem dX12_back_122 : decode cX12_back 122 = .ok (.aload_n 0, 1) := by decide +kernel
theorem dX12_back_123 : decode cX12_back 123 = .ok (.getfield 115, 3) := by decide +kernel
theorem dX12_back_126 : decode cX12_back 126 = .ok (.iload 4, 2) := by decide +kernel
theorem dX12_back_128 : decode cX12_back 128 = .ok (.iconst 3, 1) := by decide +kernel
theorem dX12_back_129 : decode cX12_back 129 = .ok (.iadd, 1) := by decide +kernel
theorem dX12_back_130 : decode cX12_back 130 = .ok (.iaload, 1) := by decide +kernel
theorem dX12_back_131 : decode cX12_back 131 = .ok (.iastore, 1) := by decide +kernel
theorem dX12_back_132 : decode cX12_back 132 = .ok (.iinc 3 1, 3) := by decide +kernel
theorem dX12_back_135 : decode cX12_back 135 = .ok (.goto (-80), 3) := by decide +kernel
theorem dX12_back_138 : decode cX12_back 138 = .ok (.aload_n 0, 1) := by decide +kernel
theorem dX12_back_139 : decode cX12_back 139 = .ok (.aload_n 0, 1) := by decide +kernel
theorem dX12_back_140 : decode cX12_back 140 = .ok (.getfield 118, 3) := by decide +kernel
theorem dX12_back_143 : decode cX12_back 143 = .ok (.iload_n 2, 1) := by decide +kernel
theorem dX12_back_144 : decode cX12_back 144 = .ok (.iaload, 1) := by decide +kernel
theorem dX12_back_145 : decode cX12_back 145 = .ok (.putfield 252, 3) := by decide +kernel
theorem dX12_back_148 : decode cX12_back 148 = .ok (.aload_n 0, 1) := by decide +kernel
theorem dX12_back_149 : decode cX12_back 149 = .ok (.aload_n 0, 1) := by decide +kernel
theorem dX12_back_150 : decode cX12_back 150 = .ok (.getfield 121, 3) := by decide +kernel
theorem dX12_back_153 : decode cX12_back 153 = .ok (.iload_n 2, 1) := by decide +kernel
theorem dX12_back_154 : decode cX12_back 154 = .ok (.iaload, 1) := by decide +kernel
theorem dX12_back_155 : decode cX12_back 155 = .ok (.putfield 255, 3) := by decide +kernel
theorem dX12_back_158 : decode cX12_back 158 = .ok (.aload_n 0, 1) := by decide +kernel
theorem dX12_back_159 : decode cX12_back 159 = .ok (.aload_n 0, 1) := by decide +kernel
theorem dX12_back_160 : decode cX12_back 160 = .ok (.getfield 124, 3) := by decide +kernel
theorem dX12_back_163 : decode cX12_back 163 = .ok (.iload_n 2, 1) := by decide +kernel
theorem dX12_back_164 : decode cX12_back 164 = .ok (.iaload, 1) := by decide +kernel
theorem dX12_back_165 : decode cX12_back 165 = .ok (.iconst (-1), 1) := by decide +kernel
theorem dX12_back_166 : decode cX12_back 166 = .ok (.if_icmp .eq 7, 3) := by decide +kernel
theorem dX12_back_169 : decode cX12_back 169 = .ok (.iconst 1, 1) := by decide +kernel
theorem dX12_back_170 : decode cX12_back 170 = .ok (.goto 4, 3) := by decide +kernel
theorem dX12_back_173 : decode cX12_back 173 = .ok (.iconst 0, 1) := by decide +kernel
theorem dX12_back_174 : decode cX12_back 174 = .ok (.putfield 241, 3) := by decide +kernel
theorem dX12_back_177 : decode cX12_back 177 = .ok (.aload_n 0, 1) := by decide +kernel
theorem dX12_back_178 : decode cX12_back 178 = .ok (.aload_n 0, 1) := by decide +kernel
theorem dX12_back_179 : decode cX12_back 179 = .ok (.getfield 241, 3) := by decide +kernel
theorem dX12_back_182 : decode cX12_back 182 = .ok (.ifCond .eq 12, 3) := by decide +kernel
theorem dX12_back_185 : decode cX12_back 185 = .ok (.aload_n 0, 1) := by decide +kernel
theorem dX12_back_186 : decode cX12_back 186 = .ok (.getfield 124, 3) := by decide +kernel
theorem dX12_back_189 : decode cX12_back 189 = .ok (.iload_n 2, 1) := by decide +kernel
theorem dX12_back_190 : decode cX12_back 190 = .ok (.iaload, 1) := by decide +kernel
theorem dX12_back_191 : decode cX12_back 191 = .ok (.goto 4, 3) := by decide +kernel
theorem dX12_back_194 : decode cX12_back 194 = .ok (.iconst 0, 1) := by decide +kernel
theorem dX12_back_195 : decode cX12_back 195 = .ok (.putfield 245, 3) := by decide +kernel
theorem dX12_back_198 : decode cX12_back 198 = .ok (.aload_n 0, 1) := by decide +kernel
theorem dX12_back_199 : decode cX12_back 199 = .ok (.iconst 0, 1) := by decide +kernel
theorem dX12_back_200 : decode cX12_back 200 = .ok (.putfield 572, 3) := by decide +kernel
theorem dX12_back_203 : decode cX12_back 203 = .ok (.iconst 0, 1) := by decide +kernel
theorem dX12_back_204 : decode cX12_back 204 = .ok (.istore_n 3, 1) := by decide +kernel
theorem dX12_back_205 : decode cX12_back 205 = .ok (.iload_n 3, 1) := by decide +kernel
theorem dX12_back_206 : decode cX12_back 206 = .ok (.aload_n 0, 1) := by decide +kernel
theorem dX12_back_207 : decode cX12_back 207 = .ok (.getfield 245, 3) := by decide +kernel
theorem dX12_back_210 : decode cX12_back 210 = .ok (.if_icmp .ge 82, 3) := by decide +kernel
theorem dX12_back_213 : decode cX12_back 213 = .ok (.aload_n 0, 1) := by decide +kernel
theorem dX12_back_214 : decode cX12_back 214 = .ok (.getfield 128, 3) := by decide +kernel
theorem dX12_back_217 : decode cX12_back 217 = .ok (.sipush 1600, 3) := by decide +kernel
theorem dX12_back_220 : decode cX12_back 220 = .ok (.iload_n 2, 1) := by decide +kernel
theorem dX12_back_221 : decode cX12_back 221 = .ok (.imul, 1) := by decide +kernel
theorem dX12_back_222 : decode cX12_back 222 = .ok (.iload_n 3, 1) := by decide +kernel
theorem dX12_back_223 : decode cX12_back 223 = .ok (.iadd, 1) := by decide +kernel
theorem dX12_back_224 : decode cX12_back 224 = .ok (.laload, 1) := by decide +kernel
theorem dX12_back_225 : decode cX12_back 225 = .ok (.lstore 4, 2) := by decide +kernel
theorem dX12_back_227 : decode cX12_back 227 = .ok (.aload_n 0, 1) := by decide +kernel
theorem dX12_back_228 : decode cX12_back 228 = .ok (.getfield 101, 3) := by decide +kernel
theorem dX12_back_231 : decode cX12_back 231 = .ok (.iload_n 3, 1) := by decide +kernel
theorem dX12_back_232 : decode cX12_back 232 = .ok (.lload 4, 2) := by decide +kernel
theorem dX12_back_234 : decode cX12_back 234 = .ok (.ldc2_w 575, 3) := by decide +kernel
theorem dX12_back_237 : decode cX12_back 237 = .ok (.land, 1) := by decide +kernel
theorem dX12_back_238 : decode cX12_back 238 = .ok (.l2i, 1) := by decide +kernel
theorem dX12_back_239 : decode cX12_back 239 = .ok (.iastore, 1) := by decide +kernel
theorem dX12_back_240 : decode cX12_back 240 = .ok (.aload_n 0, 1) := by decide +kernel
theorem dX12_back_241 : decode cX12_back 241 = .ok (.getfield 104, 3) := by decide +kernel
theorem dX12_back_244 : decode cX12_back 244 = .ok (.iload_n 3, 1) := by decide +kernel
theorem dX12_back_245 : decode cX12_back 245 = .ok (.lload 4, 2) := by decide +kernel
theorem dX12_back_247 : decode cX12_back 247 = .ok (.bipush 16, 2) := by decide +kernel
theorem dX12_back_249 : decode cX12_back 249 = .ok (.lshr, 1) := by decide +kernel
theorem dX12_back_250 : decode cX12_back 250 = .ok (.ldc2_w 575, 3) := by decide +kernel
theorem dX12_back_253 : decode cX12_back 253 = .ok (.land, 1) := by decide +kernel
theorem dX12_back_254 : decode cX12_back 254 = .ok (.l2i, 1) := by decide +kernel
theorem dX12_back_255 : decode cX12_back 255 = .ok (.iastore, 1) := by decide +kernel
theorem dX12_back_256 : decode cX12_back 256 = .ok (.aload_n 0, 1) := by decide +kernel
theorem dX12_back_257 : decode cX12_back 257 = .ok (.getfield 107, 3) := by decide +kernel
theorem dX12_back_260 : decode cX12_back 260 = .ok (.iload_n 3, 1) := by decide +kernel
theorem dX12_back_261 : decode cX12_back 261 = .ok (.lload 4, 2) := by decide +kernel
theorem dX12_back_263 : decode cX12_back 263 = .ok (.bipush 32, 2) := by decide +kernel
theorem dX12_back_265 : decode cX12_back 265 = .ok (.lshr, 1) := by decide +kernel
theorem dX12_back_266 : decode cX12_back 266 = .ok (.l2i, 1) := by decide +kernel
theorem dX12_back_267 : decode cX12_back 267 = .ok (.iastore, 1) := by decide +kernel
theorem dX12_back_268 : decode cX12_back 268 = .ok (.aload_n 0, 1) := by decide +kernel
theorem dX12_back_269 : decode cX12_back 269 = .ok (.getfield 110, 3) := by decide +kernel
theorem dX12_back_272 : decode cX12_back 272 = .ok (.iload_n 3, 1) := by decide +kernel
theorem dX12_back_273 : decode cX12_back 273 = .ok (.aload_n 0, 1) := by decide +kernel
theorem dX12_back_274 : decode cX12_back 274 = .ok (.getfield 131, 3) := by decide +kernel
theorem dX12_back_277 : decode cX12_back 277 = .ok (.sipush 1600, 3) := by decide +kernel
theorem dX12_back_280 : decode cX12_back 280 = .ok (.iload_n 2, 1) := by decide +kernel
theorem dX12_back_281 : decode cX12_back 281 = .ok (.imul, 1) := by decide +kernel
theorem dX12_back_282 : decode cX12_back 282 = .ok (.iload_n 3, 1) := by decide +kernel
theorem dX12_back_283 : decode cX12_back 283 = .ok (.iadd, 1) := by decide +kernel
theorem dX12_back_284 : decode cX12_back 284 = .ok (.laload, 1) := by decide +kernel
theorem dX12_back_285 : decode cX12_back 285 = .ok (.lastore, 1) := by decide +kernel
theorem dX12_back_286 : decode cX12_back 286 = .ok (.iinc 3 1, 3) := by decide +kernel
theorem dX12_back_289 : decode cX12_back 289 = .ok (.goto (-84), 3) := by decide +kernel
theorem dX12_back_292 : decode cX12_back 292 = .ok (.iconst 1, 1) := by decide +kernel
theorem dX12_back_293 : decode cX12_back 293 = .ok (.ireturn, 1) := by decide +kernel
abbrev rm_f_X12_back : Room := { frames := 0, cells := 0, slots := 0, locals := 0 }
def f_X12_back_L55 (K10 : (St → Option (Int × St))) (y7 : Int) : Nat → Int → St → Option (Int × St)
  | 0, _, _ => none
  | n9 + 1, x8, t9 =>
    lt1 (t9.1 200 37) fun v11 =>
    cmpI x8 v11 (if x8 < v11 then (ixI ((256 * y7) + (4 * x8)) 51456 (lt1 (t9.1 61 ((256 * y7) + (4 * x8)).toNat) fun v12 =>
    ixI x8 64 (lt1 (pI t9 38 x8.toNat v12) fun t13 =>
    ixI (((256 * y7) + (4 * x8)) + 1) 51456 (lt1 (t13.1 61 (((256 * y7) + (4 * x8)) + 1).toNat) fun v14 =>
    ixI x8 64 (lt1 (pI t13 39 x8.toNat v14) fun t15 =>
    ixI (((256 * y7) + (4 * x8)) + 2) 51456 (lt1 (t15.1 61 (((256 * y7) + (4 * x8)) + 2).toNat) fun v16 =>
    ixI x8 64 (lt1 (pI t15 40 x8.toNat v16) fun t17 =>
    ixI (((256 * y7) + (4 * x8)) + 3) 51456 (lt1 (t17.1 61 (((256 * y7) + (4 * x8)) + 3).toNat) fun v18 =>
    ixI x8 64 (lt1 (pI t17 41 x8.toNat v18) fun t19 =>
    f_X12_back_L55 K10 y7 n9 (x8 + 1) t19)))))))))
    else (K10 t9))
def f_X12_back_L205 (K39 : (St → Option (Int × St))) (y36 : Int) : Nat → Int → St → Option (Int × St)
  | 0, _, _ => none
  | n9 + 1, x37, t38 =>
    lt1 (t38.1 200 51) fun v40 =>
    cmpI x37 v40 (if x37 < v40 then (ixI ((1600 * y36) + x37) 321600 (lt1 (t38.2 65 ((1600 * y36) + x37).toNat) fun v41 =>
    ixI x37 1600 (lt1 (pI t38 55 x37.toNat ((v41 &&& (65535 : Int64)).toInt)) fun t42 =>
    ixI x37 1600 (lt1 (pI t42 56 x37.toNat (((shrL v41 16) &&& (65535 : Int64)).toInt)) fun t43 =>
    ixI x37 1600 (lt1 (pI t43 57 x37.toNat ((shrL v41 32).toInt)) fun t44 =>
    ixI ((1600 * y36) + x37) 321600 (lt1 (t44.2 66 ((1600 * y36) + x37).toNat) fun v45 =>
    ixI x37 1600 (lt1 (pL t44 58 x37.toNat v45) fun t46 =>
    f_X12_back_L205 K39 y36 n9 (x37 + 1) t46)))))))
    else (K39 t38))
def f_X12_back (N : Nat) (a0 : Int) (t : St) : Option (Int × St) :=
    cmpI a0 0 (if a0 < 0 then (boI 0 (some (0, t)))
    else (lt1 (t.1 200 59) fun v1 =>
    cmpI a0 v1 (if v1 < a0 then (boI 0 (some (0, t)))
    else (cmpI a0 0 (if a0 = 0 then (boI 1 (some (1, t)))
    else (lt1 (t.1 200 60) fun v2 =>
    dvI ((v2 + 201) - a0) 201 (
    lt1 (pI t 200 60 (((v2 + 201) - a0) % 201)) fun t3 =>
    lt1 (t3.1 200 59) fun v4 =>
    lt1 (pI t3 200 59 (v4 - a0)) fun t5 =>
    lt1 (t5.1 200 60) fun v6 =>
    f_X12_back_L55 (fun (t20 : St) => ixI v6 201 (lt1 (t20.1 62 v6.toNat) fun v21 =>
    lt1 (pI t20 200 42 v21) fun t22 =>
    ixI v6 201 (lt1 (t22.1 63 v6.toNat) fun v23 =>
    lt1 (pI t22 200 43 v23) fun t24 =>
    ixI v6 201 (lt1 (t24.1 64 v6.toNat) fun v25 =>
    jn1 (fun (j26 : Int) (t27 : St) => boI j26 (lt1 (pI t27 200 50 j26) fun t29 =>
    lt1 (t29.1 200 50) fun v30 =>
    jn1 (fun (j31 : Int) (t32 : St) => lt1 (pI t32 200 51 j31) fun t34 =>
    lt1 (pI t34 200 52 0) fun t35 =>
    f_X12_back_L205 (fun (t47 : St) => boI 1 (some (1, t47))) v6 N 0 t35) fun J33 =>
    cmpI v30 0 (if v30 = 0 then (J33 0 t29)
    else (ixI v6 201 (lt1 (t29.1 64 v6.toNat) fun v48 =>
    J33 v48 t29))))) fun J28 =>
    cmpI v25 (-1) (if v25 = (-1) then (J28 0 t24)
    else (J28 1 t24)))))) v6 N 0 t5)))))))
set_option maxHeartbeats 4000000 in
set_option maxRecDepth 100000 in
theorem t_f_X12_back_L55 {p : Program} {l : Launch} {e : Env} {s : State} {m : MethodId} {args : Array Value} {below : List Frame} {meth : Method} {c : Code} {E : cE} {A : Nat → Prop} {r : Nat → Nat} {mc ms : Nat} {z : Int × St} {K10 : (St → Option (Int × St))} {y7 : Int} (X : gX p s m meth c cX12_back 6 (some .boolean) yX12_back args E A) (hK10 : ∀ (t9 : St), K10 t9 = some z → gP p l e rm_f_X12_back s m args below meth c E A 6 (MQ below ((gqI E (gW E r shM) z) A) args s mc ms A) (gW E r shM) 138 [(0, .ref (r 200)), (2, iv y7)] [] t9) : ∀ (n9 : Nat) (x8 : Int) (t9 : St), f_X12_back_L55 K10 y7 n9 x8 t9 = some z → gP p l e rm_f_X12_back s m args below meth c E A 6 (MQ below ((gqI E (gW E r shM) z) A) args s mc ms A) (gW E r shM) 55 [(0, .ref (r 200)), (2, iv y7), (3, iv x8)] [] t9 := by
  intro n9
  induction n9 with
  | zero => intro x8 t9 h; cases h
  | succ n9 ih =>
    intro x8 t9 h
    unfold f_X12_back_L55 at h
    refine g_iload_n X dX12_back_55 2 rfl ?_
    refine g_aload_n X dX12_back_56 0 rfl ?_
    refine g_getI X fM_37 rfl dX12_back_57 h (fun v11 h => ?_)
    refine g_icmp_ge (tgt := 138) X dX12_back_60 (by decide) h (fun h => ?_) (fun h => ?_)
    · exact g_sub (lv' := [(0, .ref (r 200)), (2, iv y7)]) [0, 1] rfl (hK10 t9 h)
    · refine g_sipush X dX12_back_63 (by decide) ?_
      refine g_iload_n X dX12_back_66 1 rfl ?_
      refine g_imul X dX12_back_67 ?_
      refine g_iconst X dX12_back_68 ?_
      refine g_iload_n X dX12_back_69 2 rfl ?_
      refine g_imul X dX12_back_70 ?_
      refine g_iadd X dX12_back_71 ?_
      refine g_istore (lv' := [(4, iv ((256 * y7) + (4 * x8))), (0, .ref (r 200)), (2, iv y7), (3, iv x8)]) X dX12_back_72 (by decide) rfl ?_
      refine g_aload_n X dX12_back_74 1 rfl ?_
      refine g_getR X fM_38 rfl dX12_back_75 ?_
      refine g_iload_n X dX12_back_78 3 rfl ?_
      refine g_aload_n X dX12_back_79 1 rfl ?_
      refine g_getR X fM_61 rfl dX12_back_80 ?_
      refine g_iload X dX12_back_83 0 rfl ?_
      refine g_iald X aM_61 dX12_back_85 h (fun v12 h => ?_)
      refine g_iast X aM_38 dX12_back_86 h (fun t13 h => ?_)
      refine g_aload_n X dX12_back_87 1 rfl ?_
      refine g_getR X fM_39 rfl dX12_back_88 ?_
      refine g_iload_n X dX12_back_91 3 rfl ?_
      refine g_aload_n X dX12_back_92 1 rfl ?_
      refine g_getR X fM_61 rfl dX12_back_93 ?_
      refine g_iload X dX12_back_96 0 rfl ?_
      refine g_iconst X dX12_back_98 ?_
      refine g_iadd X dX12_back_99 ?_
      refine g_iald X aM_61 dX12_back_100 h (fun v14 h => ?_)
      refine g_iast X aM_39 dX12_back_101 h (fun t15 h => ?_)
      refine g_aload_n X dX12_back_102 1 rfl ?_
      refine g_getR X fM_40 rfl dX12_back_103 ?_
      refine g_iload_n X dX12_back_106 3 rfl ?_
      refine g_aload_n X dX12_back_107 1 rfl ?_
      refine g_getR X fM_61 rfl dX12_back_108 ?_
      refine g_iload X dX12_back_111 0 rfl ?_
      refine g_iconst X dX12_back_113 ?_
      refine g_iadd X dX12_back_114 ?_
      refine g_iald X aM_61 dX12_back_115 h (fun v16 h => ?_)
      refine g_iast X aM_40 dX12_back_116 h (fun t17 h => ?_)
      refine g_aload_n X dX12_back_117 1 rfl ?_
      refine g_getR X fM_41 rfl dX12_back_118 ?_
      refine g_iload_n X dX12_back_121 3 rfl ?_
      refine g_aload_n X dX12_back_122 1 rfl ?_
      refine g_getR X fM_61 rfl dX12_back_123 ?_
      refine g_iload X dX12_back_126 0 rfl ?_
      refine g_iconst X dX12_back_128 ?_
      refine g_iadd X dX12_back_129 ?_
      refine g_iald X aM_61 dX12_back_130 h (fun v18 h => ?_)
      refine g_iast X aM_41 dX12_back_131 h (fun t19 h => ?_)
      refine g_iinc (lv' := [(3, iv (x8 + 1)), (4, iv ((256 * y7) + (4 * x8))), (0, .ref (r 200)), (2, iv y7)]) X dX12_back_132 (k := 3) rfl (by decide) rfl ?_
      refine g_goto (tgt := 55) X dX12_back_135 (by decide) ?_
      exact g_sub (lv' := [(0, .ref (r 200)), (2, iv y7), (3, iv (x8 + 1))]) [2, 3, 0] rfl (ih (x8 + 1) t19 h)
set_option maxHeartbeats 4000000 in
set_option maxRecDepth 100000 in
theorem t_f_X12_back_L205 {p : Program} {l : Launch} {e : Env} {s : State} {m : MethodId} {args : Array Value} {below : List Frame} {meth : Method} {c : Code} {E : cE} {A : Nat → Prop} {r : Nat → Nat} {mc ms : Nat} {z : Int × St} {K39 : (St → Option (Int × St))} {y36 : Int} (X : gX p s m meth c cX12_back 6 (some .boolean) yX12_back args E A) (hK39 : ∀ (t9 : St), K39 t9 = some z → gP p l e rm_f_X12_back s m args below meth c E A 6 (MQ below ((gqI E (gW E r shM) z) A) args s mc ms A) (gW E r shM) 292 [] [] t9) : ∀ (n9 : Nat) (x37 : Int) (t38 : St), f_X12_back_L205 K39 y36 n9 x37 t38 = some z → gP p l e rm_f_X12_back s m args below meth c E A 6 (MQ below ((gqI E (gW E r shM) z) A) args s mc ms A) (gW E r shM) 205 [(0, .ref (r 200)), (2, iv y36), (3, iv x37)] [] t38 := by
  intro n9
  induction n9 with
  | zero => intro x37 t38 h; cases h
  | succ n9 ih =>
    intro x37 t38 h
    unfold f_X12_back_L205 at h
    refine g_iload_n X dX12_back_205 2 rfl ?_
    refine g_aload_n X dX12_back_206 0 rfl ?_
    refine g_getI X fM_51 rfl dX12_back_207 h (fun v40 h => ?_)
    refine g_icmp_ge (tgt := 292) X dX12_back_210 (by decide) h (fun h => ?_) (fun h => ?_)
    · exact g_sub (lv' := []) [] rfl (hK39 t38 h)
    · refine g_aload_n X dX12_back_213 0 rfl ?_
      refine g_getR X fM_65 rfl dX12_back_214 ?_
      refine g_sipush X dX12_back_217 (by decide) ?_
      refine g_iload_n X dX12_back_220 1 rfl ?_
      refine g_imul X dX12_back_221 ?_
      refine g_iload_n X dX12_back_222 2 rfl ?_
      refine g_iadd X dX12_back_223 ?_
      refine g_lald X aM_65 dX12_back_224 h (fun v41 h => ?_)
      refine g_lstore (lv' := [(4, .long v41), (0, .ref (r 200)), (2, iv y36), (3, iv x37)]) X dX12_back_225 (by decide) rfl ?_
      refine g_aload_n X dX12_back_227 1 rfl ?_
      refine g_getR X fM_55 rfl dX12_back_228 ?_
      refine g_iload_n X dX12_back_231 3 rfl ?_
      refine g_lload X dX12_back_232 0 rfl ?_
      refine g_ldc2 X rfl wdL_RX12_575 dX12_back_234 ?_
      refine g_land X dX12_back_237 ?_
      refine g_l2i X dX12_back_238 ?_
      refine g_iast X aM_55 dX12_back_239 h (fun t42 h => ?_)
      refine g_aload_n X dX12_back_240 1 rfl ?_
      refine g_getR X fM_56 rfl dX12_back_241 ?_
      refine g_iload_n X dX12_back_244 3 rfl ?_
      refine g_lload X dX12_back_245 0 rfl ?_
      refine g_bipush X dX12_back_247 (by decide) ?_
      refine g_lshr X dX12_back_249 ?_
      refine g_ldc2 X rfl wdL_RX12_575 dX12_back_250 ?_
      refine g_land X dX12_back_253 ?_
      refine g_l2i X dX12_back_254 ?_
      refine g_iast X aM_56 dX12_back_255 h (fun t43 h => ?_)
      refine g_aload_n X dX12_back_256 1 rfl ?_
      refine g_getR X fM_57 rfl dX12_back_257 ?_
      refine g_iload_n X dX12_back_260 3 rfl ?_
      refine g_lload X dX12_back_261 0 rfl ?_
      refine g_bipush X dX12_back_263 (by decide) ?_
      refine g_lshr X dX12_back_265 ?_
      refine g_l2i X dX12_back_266 ?_
      refine g_iast X aM_57 dX12_back_267 h (fun t44 h => ?_)
      refine g_aload_n X dX12_back_268 1 rfl ?_
      refine g_getR X fM_58 rfl dX12_back_269 ?_
      refine g_iload_n X dX12_back_272 3 rfl ?_
      refine g_aload_n X dX12_back_273 1 rfl ?_
      refine g_getR X fM_66 rfl dX12_back_274 ?_
      refine g_sipush X dX12_back_277 (by decide) ?_
      refine g_iload_n X dX12_back_280 2 rfl ?_
      refine g_imul X dX12_back_281 ?_
      refine g_iload_n X dX12_back_282 3 rfl ?_
      refine g_iadd X dX12_back_283 ?_
      refine g_lald X aM_66 dX12_back_284 h (fun v45 h => ?_)
      refine g_last X aM_58 dX12_back_285 h (fun t46 h => ?_)
      refine g_iinc (lv' := [(3, iv (x37 + 1)), (4, .long v41), (0, .ref (r 200)), (2, iv y36)]) X dX12_back_286 (k := 3) rfl (by decide) rfl ?_
      refine g_goto (tgt := 205) X dX12_back_289 (by decide) ?_
      exact g_sub (lv' := [(0, .ref (r 200)), (2, iv y36), (3, iv (x37 + 1))]) [2, 3, 0] rfl (ih (x37 + 1) t46 h)
set_option maxHeartbeats 4000000 in
set_option maxRecDepth 100000 in
theorem b_f_X12_back {p : Program} {l : Launch} {e : Env} {s : State} {m : MethodId} {args : Array Value} {below : List Frame} {meth : Method} {c : Code} {E : cE} {A : Nat → Prop} {r : Nat → Nat} {mc ms : Nat} {z : Int × St} {N : Nat} {a0 : Int} {t : St} (X : gX p s m meth c cX12_back 6 (some .boolean) yX12_back args E A) (h : f_X12_back N a0 t = some z) : gP p l e rm_f_X12_back s m args below meth c E A 6 (MQ below ((gqI E (gW E r shM) z) A) args s mc ms A) (gW E r shM) 0 [(0, .ref (r 200)), (1, iv a0)] [] t := by
  unfold f_X12_back at h
  refine g_iload_n X dX12_back_0 1 rfl ?_
  refine g_if_lt (tgt := 12) X dX12_back_1 (by decide) h (fun h => ?_) (fun h => ?_)
  · refine g_iconst X dX12_back_12 ?_
    exact g_zret X h dX12_back_13
  · refine g_iload_n X dX12_back_4 1 rfl ?_
    refine g_aload_n X dX12_back_5 0 rfl ?_
    refine g_getI X fM_59 rfl dX12_back_6 h (fun v1 h => ?_)
    refine g_icmp_le (tgt := 14) X dX12_back_9 (by decide) h (fun h => ?_) (fun h => ?_)
    · refine g_iload_n X dX12_back_14 1 rfl ?_
      refine g_if_ne (tgt := 20) X dX12_back_15 (by decide) h (fun h => ?_) (fun h => ?_)
      · refine g_aload_n X dX12_back_20 0 rfl ?_
        refine g_aload_n X dX12_back_21 0 rfl ?_
        refine g_getI X fM_60 rfl dX12_back_22 h (fun v2 h => ?_)
        refine g_sipush X dX12_back_25 (by decide) ?_
        refine g_iadd X dX12_back_28 ?_
        refine g_iload_n X dX12_back_29 1 rfl ?_
        refine g_isub X dX12_back_30 ?_
        refine g_sipush X dX12_back_31 (by decide) ?_
        refine g_irem X dX12_back_34 h (fun h => ?_)
        refine g_putI X fM_60w rfl dX12_back_35 h (fun t3 h => ?_)
        refine g_aload_n X dX12_back_38 0 rfl ?_
        refine g_dup X rfl dX12_back_39 ?_
        refine g_getI X fM_59 rfl dX12_back_40 h (fun v4 h => ?_)
        refine g_iload_n X dX12_back_43 1 rfl ?_
        refine g_isub X dX12_back_44 ?_
        refine g_putI X fM_59w rfl dX12_back_45 h (fun t5 h => ?_)
        refine g_aload_n X dX12_back_48 0 rfl ?_
        refine g_getI X fM_60 rfl dX12_back_49 h (fun v6 h => ?_)
        refine g_istore_n (lv' := [(2, iv v6), (0, .ref (r 200)), (1, iv a0)]) X dX12_back_52 rfl (by decide) rfl ?_
        refine g_iconst X dX12_back_53 ?_
        refine g_istore_n (lv' := [(3, iv 0), (2, iv v6), (0, .ref (r 200)), (1, iv a0)]) X dX12_back_54 rfl (by decide) rfl ?_
        refine g_sub (lv' := [(0, .ref (r 200)), (2, iv v6), (3, iv 0)]) [2, 1, 0] rfl (t_f_X12_back_L55 X (fun t20 h => ?_) N 0 t5 h)
        · refine g_aload_n X dX12_back_138 0 rfl ?_
          refine g_aload_n X dX12_back_139 0 rfl ?_
          refine g_getR X fM_62 rfl dX12_back_140 ?_
          refine g_iload_n X dX12_back_143 1 rfl ?_
          refine g_iald X aM_62 dX12_back_144 h (fun v21 h => ?_)
          refine g_putI X fM_42w rfl dX12_back_145 h (fun t22 h => ?_)
          refine g_aload_n X dX12_back_148 0 rfl ?_
          refine g_aload_n X dX12_back_149 0 rfl ?_
          refine g_getR X fM_63 rfl dX12_back_150 ?_
          refine g_iload_n X dX12_back_153 1 rfl ?_
          refine g_iald X aM_63 dX12_back_154 h (fun v23 h => ?_)
          refine g_putI X fM_43w rfl dX12_back_155 h (fun t24 h => ?_)
          refine g_aload_n X dX12_back_158 0 rfl ?_
          refine g_aload_n X dX12_back_159 0 rfl ?_
          refine g_getR X fM_64 rfl dX12_back_160 ?_
          refine g_iload_n X dX12_back_163 1 rfl ?_
          refine g_iald X aM_64 dX12_back_164 h (fun v25 h => ?_)
          refine g_iconst X dX12_back_165 ?_
          refine g_join (J := fun jj => ∀ (j26 : Int) (t27 : St), jj j26 t27 = some z → gP p l e rm_f_X12_back s m args below meth c E A 6 (MQ below ((gqI E (gW E r shM) z) A) args s mc ms A) (gW E r shM) 174 [(0, .ref (r 200)), (2, iv v6)] [iv j26, .ref (r 200)] t27) h (fun j26 t27 h => ?_) (fun J28 hJ28 h => ?_)
          · refine g_putZ X fM_50w rfl dX12_back_174 h (fun t29 h => ?_)
            refine g_aload_n X dX12_back_177 0 rfl ?_
            refine g_aload_n X dX12_back_178 0 rfl ?_
            refine g_getI X fM_50 rfl dX12_back_179 h (fun v30 h => ?_)
            refine g_join (J := fun jj => ∀ (j31 : Int) (t32 : St), jj j31 t32 = some z → gP p l e rm_f_X12_back s m args below meth c E A 6 (MQ below ((gqI E (gW E r shM) z) A) args s mc ms A) (gW E r shM) 195 [(0, .ref (r 200)), (2, iv v6)] [iv j31, .ref (r 200)] t32) h (fun j31 t32 h => ?_) (fun J33 hJ33 h => ?_)
            · refine g_putI X fM_51w rfl dX12_back_195 h (fun t34 h => ?_)
              refine g_aload_n X dX12_back_198 0 rfl ?_
              refine g_iconst X dX12_back_199 ?_
              refine g_putI X fM_52w rfl dX12_back_200 h (fun t35 h => ?_)
              refine g_iconst X dX12_back_203 ?_
              refine g_istore_n (lv' := [(3, iv 0), (0, .ref (r 200)), (2, iv v6)]) X dX12_back_204 rfl (by decide) rfl ?_
              refine g_sub (lv' := [(0, .ref (r 200)), (2, iv v6), (3, iv 0)]) [1, 2, 0] rfl (t_f_X12_back_L205 X (fun t47 h => ?_) N 0 t35 h)
              · refine g_iconst X dX12_back_292 ?_
                exact g_zret X h dX12_back_293
            refine g_if_eq (tgt := 194) X dX12_back_182 (by decide) h (fun h => ?_) (fun h => ?_)
            · refine g_iconst X dX12_back_194 ?_
              exact g_sub (lv' := [(0, .ref (r 200)), (2, iv v6)]) [0, 1] rfl (hJ33 0 t29 h)
            · refine g_aload_n X dX12_back_185 0 rfl ?_
              refine g_getR X fM_64 rfl dX12_back_186 ?_
              refine g_iload_n X dX12_back_189 1 rfl ?_
              refine g_iald X aM_64 dX12_back_190 h (fun v48 h => ?_)
              refine g_goto (tgt := 195) X dX12_back_191 (by decide) ?_
              exact g_sub (lv' := [(0, .ref (r 200)), (2, iv v6)]) [0, 1] rfl (hJ33 v48 t29 h)
          refine g_icmp_eq (tgt := 173) X dX12_back_166 (by decide) h (fun h => ?_) (fun h => ?_)
          · refine g_iconst X dX12_back_173 ?_
            exact g_sub (lv' := [(0, .ref (r 200)), (2, iv v6)]) [0, 1] rfl (hJ28 0 t24 h)
          · refine g_iconst X dX12_back_169 ?_
            refine g_goto (tgt := 174) X dX12_back_170 (by decide) ?_
            exact g_sub (lv' := [(0, .ref (r 200)), (2, iv v6)]) [0, 1] rfl (hJ28 1 t24 h)
      · refine g_iconst X dX12_back_18 ?_
        exact g_zret X h dX12_back_19
    · refine g_iconst X dX12_back_12 ?_
      exact g_zret X h dX12_back_13
set_option maxHeartbeats 4000000 in
set_option maxRecDepth 100000 in
theorem cp_X12_back (l : Launch) (E : cE) (r : Nat → Nat) (N : Nat) (a0 : Int) (t : St) (z : Int × St) (h : f_X12_back N a0 t = some z) : cM l E yX12_back cX12_back 6 (some .boolean) rm_f_X12_back [.ref (r 200), iv a0] (gW E r shM t) (gqI E (gW E r shM) z) := by
  refine g_of (w := gW E r shM) (by decide) (Nat.le_of_ble_eq_true rfl) ?_
  intro p e s m below meth c A X
  exact g_sub (lv' := [(0, .ref (r 200)), (1, iv a0)]) [0, 1] rfl (b_f_X12_back X h)
theorem yy_X12_back : cY yX12_back cX12_back 6 (some .boolean) 1 := ⟨wdK_X12_back, wdZ_RX12, by decide +kernel⟩
theorem yi_X12_back : cYi yX12_back := ⟨wdN_X12_back, wdS_X12_back⟩
theorem dX12_enters_0 : decode cX12_enters 0 = .ok (.aload_n 0, 1) := by decide +kernel
theorem dX12_enters_1 : decode cX12_enters 1 = .ok (.getfield 101, 3) := by decide +kernel
theorem dX12_enters_4 : decode cX12_enters 4 = .ok (.aload_n 0, 1) := by decide +kernel
theorem dX12_enters_5 : decode cX12_enters 5 = .ok (.getfield 245, 3) := by decide +kernel
theorem dX12_enters_8 : decode cX12_enters 8 = .ok (.iload_n 1, 1) := by decide +kernel
theorem dX12_enters_9 : decode cX12_enters 9 = .ok (.iastore, 1) := by decide +kernel
theorem dX12_enters_10 : decode cX12_enters 10 = .ok (.aload_n 0, 1) := by decide +kernel
theorem dX12_enters_11 : decode cX12_enters 11 = .ok (.getfield 104, 3) := by decide +kernel
theorem dX12_enters_14 : decode cX12_enters 14 = .ok (.aload_n 0, 1) := by decide +kernel
theorem dX12_enters_15 : decode cX12_enters 15 = .ok (.getfield 245, 3) := by decide +kernel
theorem dX12_enters_18 : decode cX12_enters 18 = .ok (.iload_n 2, 1) := by decide +kernel
theorem dX12_enters_19 : decode cX12_enters 19 = .ok (.iastore, 1) := by decide +kernel
theorem dX12_enters_20 : decode cX12_enters 20 = .ok (.aload_n 0, 1) := by decide +kernel
theorem dX12_enters_21 : decode cX12_enters 21 = .ok (.getfield 107, 3) := by decide +kernel
theorem dX12_enters_24 : decode cX12_enters 24 = .ok (.aload_n 0, 1) := by decide +kernel
theorem dX12_enters_25 : decode cX12_enters 25 = .ok (.getfield 245, 3) := by decide +kernel
theorem dX12_enters_28 : decode cX12_enters 28 = .ok (.iload_n 3, 1) := by decide +kernel
theorem dX12_enters_29 : decode cX12_enters 29 = .ok (.iastore, 1) := by decide +kernel
theorem dX12_enters_30 : decode cX12_enters 30 = .ok (.aload_n 0, 1) := by decide +kernel
theorem dX12_enters_31 : decode cX12_enters 31 = .ok (.getfield 110, 3) := by decide +kernel
theorem dX12_enters_34 : decode cX12_enters 34 = .ok (.aload_n 0, 1) := by decide +kernel
theorem dX12_enters_35 : decode cX12_enters 35 = .ok (.getfield 245, 3) := by decide +kernel
theorem dX12_enters_38 : decode cX12_enters 38 = .ok (.lload 4, 2) := by decide +kernel
theorem dX12_enters_40 : decode cX12_enters 40 = .ok (.lastore, 1) := by decide +kernel
theorem dX12_enters_41 : decode cX12_enters 41 = .ok (.aload_n 0, 1) := by decide +kernel
theorem dX12_enters_42 : decode cX12_enters 42 = .ok (.dup, 1) := by decide +kernel
theorem dX12_enters_43 : decode cX12_enters 43 = .ok (.getfield 245, 3) := by decide +kernel
theorem dX12_enters_46 : decode cX12_enters 46 = .ok (.iconst 1, 1) := by decide +kernel
theorem dX12_enters_47 : decode cX12_enters 47 = .ok (.iadd, 1) := by decide +kernel
theorem dX12_enters_48 : decode cX12_enters 48 = .ok (.putfield 245, 3) := by decide +kernel
theorem dX12_enters_51 : decode cX12_enters 51 = .ok (.return_, 1) := by decide +kernel
abbrev rm_f_X12_enters : Room := { frames := 0, cells := 0, slots := 0, locals := 0 }
def f_X12_enters (N : Nat) (a0 : Int) (a1 : Int) (a2 : Int) (a3 : Int64) (t : St) : Option (St) :=
    lt1 (t.1 200 51) fun v1 =>
    ixI v1 1600 (lt1 (pI t 55 v1.toNat a0) fun t2 =>
    lt1 (t2.1 200 51) fun v3 =>
    ixI v3 1600 (lt1 (pI t2 56 v3.toNat a1) fun t4 =>
    lt1 (t4.1 200 51) fun v5 =>
    ixI v5 1600 (lt1 (pI t4 57 v5.toNat a2) fun t6 =>
    lt1 (t6.1 200 51) fun v7 =>
    ixI v7 1600 (lt1 (pL t6 58 v7.toNat a3) fun t8 =>
    lt1 (t8.1 200 51) fun v9 =>
    lt1 (pI t8 200 51 (v9 + 1)) fun t10 =>
    some t10))))
set_option maxHeartbeats 4000000 in
set_option maxRecDepth 100000 in
theorem b_f_X12_enters {p : Program} {l : Launch} {e : Env} {s : State} {m : MethodId} {args : Array Value} {below : List Frame} {meth : Method} {c : Code} {E : cE} {A : Nat → Prop} {r : Nat → Nat} {mc ms : Nat} {z : St} {N : Nat} {a0 : Int} {a1 : Int} {a2 : Int} {a3 : Int64} {t : St} (X : gX p s m meth c cX12_enters 6 none yX12_enters args E A) (h : f_X12_enters N a0 a1 a2 a3 t = some z) : gP p l e rm_f_X12_enters s m args below meth c E A 6 (MQ below ((gqV E (gW E r shM) z) A) args s mc ms A) (gW E r shM) 0 [(0, .ref (r 200)), (1, iv a0), (2, iv a1), (3, iv a2), (4, .long a3)] [] t := by
  unfold f_X12_enters at h
  refine g_aload_n X dX12_enters_0 0 rfl ?_
  refine g_getR X fM_55 rfl dX12_enters_1 ?_
  refine g_aload_n X dX12_enters_4 0 rfl ?_
  refine g_getI X fM_51 rfl dX12_enters_5 h (fun v1 h => ?_)
  refine g_iload_n X dX12_enters_8 1 rfl ?_
  refine g_iast X aM_55 dX12_enters_9 h (fun t2 h => ?_)
  refine g_aload_n X dX12_enters_10 0 rfl ?_
  refine g_getR X fM_56 rfl dX12_enters_11 ?_
  refine g_aload_n X dX12_enters_14 0 rfl ?_
  refine g_getI X fM_51 rfl dX12_enters_15 h (fun v3 h => ?_)
  refine g_iload_n X dX12_enters_18 2 rfl ?_
  refine g_iast X aM_56 dX12_enters_19 h (fun t4 h => ?_)
  refine g_aload_n X dX12_enters_20 0 rfl ?_
  refine g_getR X fM_57 rfl dX12_enters_21 ?_
  refine g_aload_n X dX12_enters_24 0 rfl ?_
  refine g_getI X fM_51 rfl dX12_enters_25 h (fun v5 h => ?_)
  refine g_iload_n X dX12_enters_28 3 rfl ?_
  refine g_iast X aM_57 dX12_enters_29 h (fun t6 h => ?_)
  refine g_aload_n X dX12_enters_30 0 rfl ?_
  refine g_getR X fM_58 rfl dX12_enters_31 ?_
  refine g_aload_n X dX12_enters_34 0 rfl ?_
  refine g_getI X fM_51 rfl dX12_enters_35 h (fun v7 h => ?_)
  refine g_lload X dX12_enters_38 4 rfl ?_
  refine g_last X aM_58 dX12_enters_40 h (fun t8 h => ?_)
  refine g_aload_n X dX12_enters_41 0 rfl ?_
  refine g_dup X rfl dX12_enters_42 ?_
  refine g_getI X fM_51 rfl dX12_enters_43 h (fun v9 h => ?_)
  refine g_iconst X dX12_enters_46 ?_
  refine g_iadd X dX12_enters_47 ?_
  refine g_putI X fM_51w rfl dX12_enters_48 h (fun t10 h => ?_)
  exact g_vret X h dX12_enters_51
set_option maxHeartbeats 4000000 in
set_option maxRecDepth 100000 in
theorem cp_X12_enters (l : Launch) (E : cE) (r : Nat → Nat) (N : Nat) (a0 : Int) (a1 : Int) (a2 : Int) (a3 : Int64) (t : St) (z : St) (h : f_X12_enters N a0 a1 a2 a3 t = some z) : cM l E yX12_enters cX12_enters 6 none rm_f_X12_enters [.ref (r 200), iv a0, iv a1, iv a2, .long a3] (gW E r shM t) (gqV E (gW E r shM) z) := by
  refine g_of (w := gW E r shM) (by decide) (Nat.le_of_ble_eq_true rfl) ?_
  intro p e s m below meth c A X
  exact g_sub (lv' := [(0, .ref (r 200)), (1, iv a0), (2, iv a1), (3, iv a2), (4, .long a3)]) [0, 1, 2, 3, 4] rfl (b_f_X12_enters X h)
theorem yy_X12_enters : cY yX12_enters cX12_enters 6 none 4 := ⟨wdK_X12_enters, wdZ_RX12, by decide +kernel⟩
theorem yi_X12_enters : cYi yX12_enters := ⟨wdN_X12_enters, wdS_X12_enters⟩
theorem dX12_starts_0 : decode cX12_starts 0 = .ok (.aload_n 0, 1) := by decide +kernel
theorem dX12_starts_1 : decode cX12_starts 1 = .ok (.iconst 0, 1) := by decide +kernel
theorem dX12_starts_2 : decode cX12_starts 2 = .ok (.putfield 245, 3) := by decide +kernel
theorem dX12_starts_5 : decode cX12_starts 5 = .ok (.aload_n 0, 1) := by decide +kernel
theorem dX12_starts_6 : decode cX12_starts 6 = .ok (.iconst 0, 1) := by decide +kernel
theorem dX12_starts_7 : decode cX12_starts 7 = .ok (.putfield 572, 3) := by decide +kernel
theorem dX12_starts_10 : decode cX12_starts 10 = .ok (.aload_n 0, 1) := by decide +kernel
theorem dX12_starts_11 : decode cX12_starts 11 = .ok (.aload_n 0, 1) := by decide +kernel
theorem dX12_starts_12 : decode cX12_starts 12 = .ok (.getfield 59, 3) := by decide +kernel
theorem dX12_starts_15 : decode cX12_starts 15 = .ok (.iload_n 1, 1) := by decide +kernel
theorem dX12_starts_16 : decode cX12_starts 16 = .ok (.iaload, 1) := by decide +kernel
theorem dX12_starts_17 : decode cX12_starts 17 = .ok (.iconst 1, 1) := by decide +kernel
theorem dX12_starts_18 : decode cX12_starts 18 = .ok (.iadd, 1) := by decide +kernel
theorem dX12_starts_19 : decode cX12_starts 19 = .ok (.aload_n 0, 1) := by decide +kernel
theorem dX12_starts_20 : decode cX12_starts 20 = .ok (.getfield 59, 3) := by decide +kernel
theorem dX12_starts_23 : decode cX12_starts 23 = .ok (.iload_n 1, 1) := by decide +kernel
theorem dX12_starts_24 : decode cX12_starts 24 = .ok (.iaload, 1) := by decide +kernel
theorem dX12_starts_25 : decode cX12_starts 25 = .ok (.iconst 0, 1) := by decide +kernel
theorem dX12_starts_26 : decode cX12_starts 26 = .ok (.aload_n 0, 1) := by decide +kernel
theorem dX12_starts_27 : decode cX12_starts 27 = .ok (.invokevirtual 580, 3) := by decide +kernel
theorem dX12_starts_30 : decode cX12_starts 30 = .ok (.invokevirtual 591, 3) := by decide +kernel
theorem dX12_starts_33 : decode cX12_starts 33 = .ok (.return_, 1) := by decide +kernel
abbrev rm_f_X12_starts : Room := { frames := 2, cells := 0, slots := 0, locals := 40 }
def f_X12_starts (N : Nat) (a0 : Int) (t : St) : Option (St) :=
    lt1 (pI t 200 51 0) fun t1 =>
    lt1 (pI t1 200 52 0) fun t2 =>
    ixI a0 60 (lt1 (t2.1 29 a0.toNat) fun v3 =>
    ixI a0 60 (lt1 (t2.1 29 a0.toNat) fun v4 =>
    bdL (f_X12_everybody N t2) fun v6 t5 =>
    bdV (f_X12_enters N (v3 + 1) v4 0 v6 t5) fun t7 =>
    some t7))
set_option maxHeartbeats 4000000 in
set_option maxRecDepth 100000 in
theorem b_f_X12_starts {p : Program} {l : Launch} {e : Env} {s : State} {m : MethodId} {args : Array Value} {below : List Frame} {meth : Method} {c : Code} {E : cE} {A : Nat → Prop} {r : Nat → Nat} {mc ms : Nat} {z : St} {N : Nat} {a0 : Int} {t : St} (X : gX p s m meth c cX12_starts 2 none yX12_starts args E A) (h : f_X12_starts N a0 t = some z) : gP p l e rm_f_X12_starts s m args below meth c E A 2 (MQ below ((gqV E (gW E r shM) z) A) args s mc ms A) (gW E r shM) 0 [(0, .ref (r 200)), (1, iv a0)] [] t := by
  unfold f_X12_starts at h
  refine g_aload_n X dX12_starts_0 0 rfl ?_
  refine g_iconst X dX12_starts_1 ?_
  refine g_putI X fM_51w rfl dX12_starts_2 h (fun t1 h => ?_)
  refine g_aload_n X dX12_starts_5 0 rfl ?_
  refine g_iconst X dX12_starts_6 ?_
  refine g_putI X fM_52w rfl dX12_starts_7 h (fun t2 h => ?_)
  refine g_aload_n X dX12_starts_10 0 rfl ?_
  refine g_aload_n X dX12_starts_11 0 rfl ?_
  refine g_getR X fM_29 rfl dX12_starts_12 ?_
  refine g_iload_n X dX12_starts_15 1 rfl ?_
  refine g_iald X aM_29 dX12_starts_16 h (fun v3 h => ?_)
  refine g_iconst X dX12_starts_17 ?_
  refine g_iadd X dX12_starts_18 ?_
  refine g_aload_n X dX12_starts_19 0 rfl ?_
  refine g_getR X fM_29 rfl dX12_starts_20 ?_
  refine g_iload_n X dX12_starts_23 1 rfl ?_
  refine g_iald X aM_29 dX12_starts_24 h (fun v4 h => ?_)
  refine g_iconst X dX12_starts_25 ?_
  refine g_aload_n X dX12_starts_26 0 rfl ?_
  refine g_callL (rest := [iv 0, iv v4, iv (v3 + 1), .ref (r 200)]) X (fun u9 h9 => cp_X12_everybody l E r N t2 u9 h9) yy_X12_everybody yi_X12_everybody wdM_RX12_580 0 12 (gW_at oM) rfl rfl rfl (Nat.le_of_ble_eq_true rfl) dX12_starts_27 ⟨by decide, by decide⟩ ⟨rfl, rfl⟩ h (fun v6 t5 h => ?_)
  refine g_callV (rest := []) X (fun u9 h9 => cp_X12_enters l E r N (v3 + 1) v4 0 v6 t5 u9 h9) yy_X12_enters yi_X12_enters wdM_RX12_591 0 12 (gW_at oM) rfl rfl rfl (Nat.le_of_ble_eq_true rfl) dX12_starts_30 ⟨by decide, by decide⟩ ⟨rfl, rfl⟩ h (fun t7 h => ?_)
  exact g_vret X h dX12_starts_33
set_option maxHeartbeats 4000000 in
set_option maxRecDepth 100000 in
theorem cp_X12_starts (l : Launch) (E : cE) (r : Nat → Nat) (N : Nat) (a0 : Int) (t : St) (z : St) (h : f_X12_starts N a0 t = some z) : cM l E yX12_starts cX12_starts 2 none rm_f_X12_starts [.ref (r 200), iv a0] (gW E r shM t) (gqV E (gW E r shM) z) := by
  refine g_of (w := gW E r shM) (by decide) (Nat.le_of_ble_eq_true rfl) ?_
  intro p e s m below meth c A X
  exact g_sub (lv' := [(0, .ref (r 200)), (1, iv a0)]) [0, 1] rfl (b_f_X12_starts X h)
theorem yy_X12_starts : cY yX12_starts cX12_starts 2 none 1 := ⟨wdK_X12_starts, wdZ_RX12, by decide +kernel⟩
theorem yi_X12_starts : cYi yX12_starts := ⟨wdN_X12_starts, wdS_X12_starts⟩
theorem dX12_begin_0 : decode cX12_begin 0 = .ok (.iload_n 1, 1) := by decide +kernel
theorem dX12_begin_1 : decode cX12_begin 1 = .ok (.iconst 0, 1) := by decide +kernel
theorem dX12_begin_2 : decode cX12_begin 2 = .ok (.aload_n 0, 1) := by decide +kernel
theorem dX12_begin_3 : decode cX12_begin 3 = .ok (.getfield 386, 3) := by decide +kernel
theorem dX12_begin_6 : decode cX12_begin 6 = .ok (.iconst 1, 1) := by decide +kernel
theorem dX12_begin_7 : decode cX12_begin 7 = .ok (.isub, 1) := by decide +kernel
theorem dX12_begin_8 : decode cX12_begin 8 = .ok (.invokestatic 227, 3) := by decide +kernel
theorem dX12_begin_11 : decode cX12_begin 11 = .ok (.ifCond .ne 5, 3) := by decide +kernel
theorem dX12_begin_14 : decode cX12_begin 14 = .ok (.iconst 0, 1) := by decide +kernel
theorem dX12_begin_15 : decode cX12_begin 15 = .ok (.ireturn, 1) := by decide +kernel
theorem dX12_begin_16 : decode cX12_begin 16 = .ok (.aload_n 0, 1) := by decide +kernel
theorem dX12_begin_17 : decode cX12_begin 17 = .ok (.iconst 1, 1) := by decide +kernel
theorem dX12_begin_18 : decode cX12_begin 18 = .ok (.putfield 241, 3) := by decide +kernel
theorem dX12_begin_21 : decode cX12_begin 21 = .ok (.aload_n 0, 1) := by decide +kernel
theorem dX12_begin_22 : decode cX12_begin 22 = .ok (.iload_n 1, 1) := by decide +kernel
theorem dX12_begin_23 : decode cX12_begin 23 = .ok (.invokevirtual 595, 3) := by decide +kernel
theorem dX12_begin_26 : decode cX12_begin 26 = .ok (.iconst 1, 1) := by decide +kernel
theorem dX12_begin_27 : decode cX12_begin 27 = .ok (.ireturn, 1) := by decide +kernel
abbrev rm_f_X12_begin : Room := { frames := 3, cells := 0, slots := 0, locals := 61 }
def f_X12_begin (N : Nat) (a0 : Int) (t : St) : Option (Int × St) :=
    lt1 (t.1 200 16) fun v1 =>
    bdI (f_X12_in N a0 0 (v1 - 1) t) fun v3 t2 =>
    cmpI v3 0 (if v3 = 0 then (boI 0 (some (0, t2)))
    else (boI 1 (lt1 (pI t2 200 50 1) fun t4 =>
    bdV (f_X12_starts N a0 t4) fun t5 =>
    boI 1 (some (1, t5)))))
set_option maxHeartbeats 4000000 in
set_option maxRecDepth 100000 in
theorem b_f_X12_begin {p : Program} {l : Launch} {e : Env} {s : State} {m : MethodId} {args : Array Value} {below : List Frame} {meth : Method} {c : Code} {E : cE} {A : Nat → Prop} {r : Nat → Nat} {mc ms : Nat} {z : Int × St} {N : Nat} {a0 : Int} {t : St} (X : gX p s m meth c cX12_begin 2 (some .boolean) yX12_begin args E A) (h : f_X12_begin N a0 t = some z) : gP p l e rm_f_X12_begin s m args below meth c E A 2 (MQ below ((gqI E (gW E r shM) z) A) args s mc ms A) (gW E r shM) 0 [(0, .ref (r 200)), (1, iv a0)] [] t := by
  unfold f_X12_begin at h
  refine g_iload_n X dX12_begin_0 1 rfl ?_
  refine g_iconst X dX12_begin_1 ?_
  refine g_aload_n X dX12_begin_2 0 rfl ?_
  refine g_getI X fM_16 rfl dX12_begin_3 h (fun v1 h => ?_)
  refine g_iconst X dX12_begin_6 ?_
  refine g_isub X dX12_begin_7 ?_
  refine g_callsI (rest := []) X (fun u9 h9 => cp_X12_in l E r N a0 0 (v1 - 1) t u9 h9) yy_X12_in wdT_X12_in wdM_RX12_227 rfl rfl (Nat.le_of_ble_eq_true rfl) dX12_begin_8 ⟨by decide, by decide⟩ ⟨rfl, rfl⟩ h (fun v3 t2 h => ?_)
  refine g_if_ne (tgt := 16) X dX12_begin_11 (by decide) h (fun h => ?_) (fun h => ?_)
  · refine g_aload_n X dX12_begin_16 0 rfl ?_
    refine g_iconst X dX12_begin_17 ?_
    refine g_putZ X fM_50w rfl dX12_begin_18 h (fun t4 h => ?_)
    refine g_aload_n X dX12_begin_21 0 rfl ?_
    refine g_iload_n X dX12_begin_22 1 rfl ?_
    refine g_callV (rest := []) X (fun u9 h9 => cp_X12_starts l E r N a0 t4 u9 h9) yy_X12_starts yi_X12_starts wdM_RX12_595 0 12 (gW_at oM) rfl rfl rfl (Nat.le_of_ble_eq_true rfl) dX12_begin_23 ⟨by decide, by decide⟩ ⟨rfl, rfl⟩ h (fun t5 h => ?_)
    refine g_iconst X dX12_begin_26 ?_
    exact g_zret X h dX12_begin_27
  · refine g_iconst X dX12_begin_14 ?_
    exact g_zret X h dX12_begin_15
set_option maxHeartbeats 4000000 in
set_option maxRecDepth 100000 in
theorem cp_X12_begin (l : Launch) (E : cE) (r : Nat → Nat) (N : Nat) (a0 : Int) (t : St) (z : Int × St) (h : f_X12_begin N a0 t = some z) : cM l E yX12_begin cX12_begin 2 (some .boolean) rm_f_X12_begin [.ref (r 200), iv a0] (gW E r shM t) (gqI E (gW E r shM) z) := by
  refine g_of (w := gW E r shM) (by decide) (Nat.le_of_ble_eq_true rfl) ?_
  intro p e s m below meth c A X
  exact g_sub (lv' := [(0, .ref (r 200)), (1, iv a0)]) [0, 1] rfl (b_f_X12_begin X h)
theorem yy_X12_begin : cY yX12_begin cX12_begin 2 (some .boolean) 1 := ⟨wdK_X12_begin, wdZ_RX12, by decide +kernel⟩
theorem yi_X12_begin : cYi yX12_begin := ⟨wdN_X12_begin, wdS_X12_begin⟩
theorem dX12_actsOf_0 : decode cX12_actsOf 0 = .ok (.aload_n 0, 1) := by decide +kernel
theorem dX12_actsOf_1 : decode cX12_actsOf 1 = .ok (.getfield 65, 3) := by decide +kernel
theorem dX12_actsOf_4 : decode cX12_actsOf 4 = .ok (.iload_n 1, 1) := by decide +kernel
theorem dX12_actsOf_5 : decode cX12_actsOf 5 = .ok (.iaload, 1) := by decide +kernel
theorem dX12_actsOf_6 : decode cX12_actsOf 6 = .ok (.istore_n 2, 1) := by decide +kernel
theorem dX12_actsOf_7 : decode cX12_actsOf 7 = .ok (.iload_n 2, 1) := by decide +kernel
theorem dX12_actsOf_8 : decode cX12_actsOf 8 = .ok (.bipush 7, 2) := by decide +kernel
theorem dX12_actsOf_10 : decode cX12_actsOf 10 = .ok (.if_icmp .eq 9, 3) := by decide +kernel
theorem dX12_actsOf_13 : decode cX12_actsOf 13 = .ok (.iload_n 2, 1) := by decide +kernel
theorem dX12_actsOf_14 : decode cX12_actsOf 14 = .ok (.bipush 8, 2) := by decide +kernel
theorem dX12_actsOf_16 : decode cX12_actsOf 16 = .ok (.if_icmp .ne 5, 3) := by decide +kernel
theorem dX12_actsOf_19 : decode cX12_actsOf 19 = .ok (.iconst 1, 1) := by decide +kernel
theorem dX12_actsOf_20 : decode cX12_actsOf 20 = .ok (.ireturn, 1) := by decide +kernel
theorem dX12_actsOf_21 : decode cX12_actsOf 21 = .ok (.iconst 1, 1) := by decide +kernel
theorem dX12_actsOf_22 : decode cX12_actsOf 22 = .ok (.istore_n 3, 1) := by decide +kernel
theorem dX12_actsOf_23 : decode cX12_actsOf 23 = .ok (.iload_n 1, 1) := by decide +kernel
theorem dX12_actsOf_24 : decode cX12_actsOf 24 = .ok (.iconst 1, 1) := by decide +kernel
theorem dX12_actsOf_25 : decode cX12_actsOf 25 = .ok (.iadd, 1) := by decide +kernel
theorem dX12_actsOf_26 : decode cX12_actsOf 26 = .ok (.istore 4, 2) := by decide +kernel
theorem dX12_actsOf_28 : decode cX12_actsOf 28 = .ok (.aload_n 0, 1) := by decide +kernel
theorem dX12_actsOf_29 : decode cX12_actsOf 29 = .ok (.getfield 65, 3) := by decide +kernel
theorem dX12_actsOf_32 : decode cX12_actsOf 32 = .ok (.iload 4, 2) := by decide +kernel
theorem dX12_actsOf_34 : decode cX12_actsOf 34 = .ok (.iaload, 1) := by decide +kernel
theorem dX12_actsOf_35 : decode cX12_actsOf 35 = .ok (.sipush 5123, 3) := by decide +kernel
theorem dX12_actsOf_38 : decode cX12_actsOf 38 = .ok (.if_icmp .eq 53, 3) := by decide +kernel
theorem dX12_actsOf_41 : decode cX12_actsOf 41 = .ok (.iload_n 3, 1) := by decide +kernel
theorem dX12_actsOf_42 : decode cX12_actsOf 42 = .ok (.aload_n 0, 1) := by decide +kernel
theorem dX12_actsOf_43 : decode cX12_actsOf 43 = .ok (.getfield 65, 3) := by decide +kernel
theorem dX12_actsOf_46 : decode cX12_actsOf 46 = .ok (.iload 4, 2) := by decide +kernel
theorem dX12_actsOf_48 : decode cX12_actsOf 48 = .ok (.iaload, 1) := by decide +kernel
theorem dX12_actsOf_49 : decode cX12_actsOf 49 = .ok (.bipush 22, 2) := by decide +kernel
theorem dX12_actsOf_51 : decode cX12_actsOf 51 = .ok (.if_icmp .eq 27, 3) := by decide +kernel
theorem dX12_actsOf_54 : decode cX12_actsOf 54 = .ok (.aload_n 0, 1) := by decide +kernel
theorem dX12_actsOf_55 : decode cX12_actsOf 55 = .ok (.getfield 65, 3) := by decide +kernel
theorem dX12_actsOf_58 : decode cX12_actsOf 58 = .ok (.iload 4, 2) := by decide +kernel
theorem dX12_actsOf_60 : decode cX12_actsOf 60 = .ok (.iaload, 1) := by decide +kernel
theorem dX12_actsOf_61 : decode cX12_actsOf 61 = .ok (.bipush 23, 2) := by decide +kernel
theorem dX12_actsOf_63 : decode cX12_actsOf 63 = .ok (.if_icmp .eq 15, 3) := by decide +kernel
theorem dX12_actsOf_66 : decode cX12_actsOf 66 = .ok (.aload_n 0, 1) := by decide +kernel
theorem dX12_actsOf_67 : decode cX12_actsOf 67 = .ok (.getfield 65, 3) := by decide +kernel
theorem dX12_actsOf_70 : decode cX12_actsOf 70 = .ok (.iload 4, 2) := by decide +kernel
theorem dX12_actsOf_72 : decode cX12_actsOf 72 = .ok (.iaload, 1) := by decide +kernel
theorem dX12_actsOf_73 : decode cX12_actsOf 73 = .ok (.bipush 30, 2) := by decide +kernel
theorem dX12_actsOf_75 : decode cX12_actsOf 75 = .ok (.if_icmp .ne 7, 3) := by decide +kernel
theorem dX12_actsOf_78 : decode cX12_actsOf 78 = .ok (.iconst 1, 1) := by decide +kernel
theorem dX12_actsOf_79 : decode cX12_actsOf 79 = .ok (.goto 4, 3) := by decide +kernel
theorem dX12_actsOf_82 : decode cX12_actsOf 82 = .ok (.iconst 0, 1) := by decide +kernel
theorem dX12_actsOf_83 : decode cX12_actsOf 83 = .ok (.iadd, 1) := by decide +kernel
theorem dX12_actsOf_84 : decode cX12_actsOf 84 = .ok (.istore_n 3, 1) := by decide +kernel
theorem dX12_actsOf_85 : decode cX12_actsOf 85 = .ok (.iinc 4 1, 3) := by decide +kernel
theorem dX12_actsOf_88 : decode cX12_actsOf 88 = .ok (.goto (-60), 3) := by decide +kernel
theorem dX12_actsOf_91 : decode cX12_actsOf 91 = .ok (.iload_n 3, 1) := by decide +kernel
theorem dX12_actsOf_92 : decode cX12_actsOf 92 = .ok (.ireturn, 1) := by decide +kernel
abbrev rm_f_X12_actsOf : Room := { frames := 0, cells := 0, slots := 0, locals := 0 }
def f_X12_actsOf_L28 (K5 : (Int → St → Option (Int × St))) : Nat → Int → Int → St → Option (Int × St)
  | 0, _, _, _ => none
  | n9 + 1, x2, x3, t4 =>
    ixI x3 10100 (lt1 (t4.1 31 x3.toNat) fun v6 =>
    cmpI v6 5123 (if v6 = 5123 then (K5 x2 t4)
    else (ixI x3 10100 (lt1 (t4.1 31 x3.toNat) fun v7 =>
    jn1 (fun (j8 : Int) (t9 : St) => f_X12_actsOf_L28 K5 n9 (x2 + j8) (x3 + 1) t9) fun J10 =>
    jn1 (fun (t11 : St) => J10 1 t11) fun J12 =>
    cmpI v7 22 (if v7 = 22 then (J12 t4)
    else (ixI x3 10100 (lt1 (t4.1 31 x3.toNat) fun v13 =>
    cmpI v13 23 (if v13 = 23 then (J12 t4)
    else (ixI x3 10100 (lt1 (t4.1 31 x3.toNat) fun v14 =>
    cmpI v14 30 (if v14 = 30 then (J12 t4)
    else (J10 0 t4))))))))))))
def f_X12_actsOf (N : Nat) (a0 : Int) (t : St) : Option (Int × St) :=
    ixI a0 10100 (lt1 (t.1 31 a0.toNat) fun v1 =>
    cmpI v1 7 (if v1 = 7 then (some (1, t))
    else (cmpI v1 8 (if v1 = 8 then (some (1, t))
    else (f_X12_actsOf_L28 (fun (k15 : Int) (t16 : St) => some (k15, t16)) N 1 (a0 + 1) t)))))
set_option maxHeartbeats 4000000 in
set_option maxRecDepth 100000 in
theorem t_f_X12_actsOf_L28 {p : Program} {l : Launch} {e : Env} {s : State} {m : MethodId} {args : Array Value} {below : List Frame} {meth : Method} {c : Code} {E : cE} {A : Nat → Prop} {r : Nat → Nat} {mc ms : Nat} {z : Int × St} {K5 : (Int → St → Option (Int × St))} (X : gX p s m meth c cX12_actsOf 5 (some .int) yX12_actsOf args E A) (hK5 : ∀ (q3 : Int) (t9 : St), K5 q3 t9 = some z → gP p l e rm_f_X12_actsOf s m args below meth c E A 5 (MQ below ((gqI E (gW E r shM) z) A) args s mc ms A) (gW E r shM) 91 [(3, iv q3)] [] t9) : ∀ (n9 : Nat) (x2 : Int) (x3 : Int) (t4 : St), f_X12_actsOf_L28 K5 n9 x2 x3 t4 = some z → gP p l e rm_f_X12_actsOf s m args below meth c E A 5 (MQ below ((gqI E (gW E r shM) z) A) args s mc ms A) (gW E r shM) 28 [(0, .ref (r 200)), (3, iv x2), (4, iv x3)] [] t4 := by
  intro n9
  induction n9 with
  | zero => intro x2 x3 t4 h; cases h
  | succ n9 ih =>
    intro x2 x3 t4 h
    unfold f_X12_actsOf_L28 at h
    refine g_aload_n X dX12_actsOf_28 0 rfl ?_
    refine g_getR X fM_31 rfl dX12_actsOf_29 ?_
    refine g_iload X dX12_actsOf_32 2 rfl ?_
    refine g_iald X aM_31 dX12_actsOf_34 h (fun v6 h => ?_)
    refine g_sipush X dX12_actsOf_35 (by decide) ?_
    refine g_icmp_eq (tgt := 91) X dX12_actsOf_38 (by decide) h (fun h => ?_) (fun h => ?_)
    · exact g_sub (lv' := [(3, iv x2)]) [1] rfl (hK5 x2 t4 h)
    · refine g_iload_n X dX12_actsOf_41 1 rfl ?_
      refine g_aload_n X dX12_actsOf_42 0 rfl ?_
      refine g_getR X fM_31 rfl dX12_actsOf_43 ?_
      refine g_iload X dX12_actsOf_46 2 rfl ?_
      refine g_iald X aM_31 dX12_actsOf_48 h (fun v7 h => ?_)
      refine g_bipush X dX12_actsOf_49 (by decide) ?_
      refine g_join (J := fun jj => ∀ (j8 : Int) (t9 : St), jj j8 t9 = some z → gP p l e rm_f_X12_actsOf s m args below meth c E A 5 (MQ below ((gqI E (gW E r shM) z) A) args s mc ms A) (gW E r shM) 83 [(0, .ref (r 200)), (4, iv x3)] [iv j8, iv x2] t9) h (fun j8 t9 h => ?_) (fun J10 hJ10 h => ?_)
      · refine g_iadd X dX12_actsOf_83 ?_
        refine g_istore_n (lv' := [(3, iv (x2 + j8)), (0, .ref (r 200)), (4, iv x3)]) X dX12_actsOf_84 rfl (by decide) rfl ?_
        refine g_iinc (lv' := [(4, iv (x3 + 1)), (3, iv (x2 + j8)), (0, .ref (r 200))]) X dX12_actsOf_85 (k := 2) rfl (by decide) rfl ?_
        refine g_goto (tgt := 28) X dX12_actsOf_88 (by decide) ?_
        exact g_sub (lv' := [(0, .ref (r 200)), (3, iv (x2 + j8)), (4, iv (x3 + 1))]) [2, 1, 0] rfl (ih (x2 + j8) (x3 + 1) t9 h)
      refine g_join (J := fun jj => ∀ (t11 : St), jj  t11 = some z → gP p l e rm_f_X12_actsOf s m args below meth c E A 5 (MQ below ((gqI E (gW E r shM) z) A) args s mc ms A) (gW E r shM) 78 [(0, .ref (r 200)), (4, iv x3)] [iv x2] t11) h (fun  t11 h => ?_) (fun J12 hJ12 h => ?_)
      · refine g_iconst X dX12_actsOf_78 ?_
        refine g_goto (tgt := 83) X dX12_actsOf_79 (by decide) ?_
        exact g_sub (lv' := [(0, .ref (r 200)), (4, iv x3)]) [0, 1] rfl (hJ10 1 t11 h)
      refine g_icmp_eq (tgt := 78) X dX12_actsOf_51 (by decide) h (fun h => ?_) (fun h => ?_)
      · exact g_sub (lv' := [(0, .ref (r 200)), (4, iv x3)]) [0, 2] rfl (hJ12 t4 h)
      · refine g_aload_n X dX12_actsOf_54 0 rfl ?_
        refine g_getR X fM_31 rfl dX12_actsOf_55 ?_
        refine g_iload X dX12_actsOf_58 2 rfl ?_
        refine g_iald X aM_31 dX12_actsOf_60 h (fun v13 h => ?_)
        refine g_bipush X dX12_actsOf_61 (by decide) ?_
        refine g_icmp_eq (tgt := 78) X dX12_actsOf_63 (by decide) h (fun h => ?_) (fun h => ?_)
        · exact g_sub (lv' := [(0, .ref (r 200)), (4, iv x3)]) [0, 2] rfl (hJ12 t4 h)
        · refine g_aload_n X dX12_actsOf_66 0 rfl ?_
          refine g_getR X fM_31 rfl dX12_actsOf_67 ?_
          refine g_iload X dX12_actsOf_70 2 rfl ?_
          refine g_iald X aM_31 dX12_actsOf_72 h (fun v14 h => ?_)
          refine g_bipush X dX12_actsOf_73 (by decide) ?_
          refine g_icmp_ne (tgt := 82) X dX12_actsOf_75 (by decide) h (fun h => ?_) (fun h => ?_)
          · refine g_iconst X dX12_actsOf_82 ?_
            exact g_sub (lv' := [(0, .ref (r 200)), (4, iv x3)]) [0, 2] rfl (hJ10 0 t4 h)
          · exact g_sub (lv' := [(0, .ref (r 200)), (4, iv x3)]) [0, 2] rfl (hJ12 t4 h)
set_option maxHeartbeats 4000000 in
set_option maxRecDepth 100000 in
theorem b_f_X12_actsOf {p : Program} {l : Launch} {e : Env} {s : State} {m : MethodId} {args : Array Value} {below : List Frame} {meth : Method} {c : Code} {E : cE} {A : Nat → Prop} {r : Nat → Nat} {mc ms : Nat} {z : Int × St} {N : Nat} {a0 : Int} {t : St} (X : gX p s m meth c cX12_actsOf 5 (some .int) yX12_actsOf args E A) (h : f_X12_actsOf N a0 t = some z) : gP p l e rm_f_X12_actsOf s m args below meth c E A 5 (MQ below ((gqI E (gW E r shM) z) A) args s mc ms A) (gW E r shM) 0 [(0, .ref (r 200)), (1, iv a0)] [] t := by
  unfold f_X12_actsOf at h
  refine g_aload_n X dX12_actsOf_0 0 rfl ?_
  refine g_getR X fM_31 rfl dX12_actsOf_1 ?_
  refine g_iload_n X dX12_actsOf_4 1 rfl ?_
  refine g_iald X aM_31 dX12_actsOf_5 h (fun v1 h => ?_)
  refine g_istore_n (lv' := [(2, iv v1), (0, .ref (r 200)), (1, iv a0)]) X dX12_actsOf_6 rfl (by decide) rfl ?_
  refine g_iload_n X dX12_actsOf_7 0 rfl ?_
  refine g_bipush X dX12_actsOf_8 (by decide) ?_
  refine g_icmp_eq (tgt := 19) X dX12_actsOf_10 (by decide) h (fun h => ?_) (fun h => ?_)
  · refine g_iconst X dX12_actsOf_19 ?_
    exact g_iret X h dX12_actsOf_20
  · refine g_iload_n X dX12_actsOf_13 0 rfl ?_
    refine g_bipush X dX12_actsOf_14 (by decide) ?_
    refine g_icmp_ne (tgt := 21) X dX12_actsOf_16 (by decide) h (fun h => ?_) (fun h => ?_)
    · refine g_iconst X dX12_actsOf_21 ?_
      refine g_istore_n (lv' := [(3, iv 1), (2, iv v1), (0, .ref (r 200)), (1, iv a0)]) X dX12_actsOf_22 rfl (by decide) rfl ?_
      refine g_iload_n X dX12_actsOf_23 3 rfl ?_
      refine g_iconst X dX12_actsOf_24 ?_
      refine g_iadd X dX12_actsOf_25 ?_
      refine g_istore (lv' := [(4, iv (a0 + 1)), (3, iv 1), (2, iv v1), (0, .ref (r 200)), (1, iv a0)]) X dX12_actsOf_26 (by decide) rfl ?_
      refine g_sub (lv' := [(0, .ref (r 200)), (3, iv 1), (4, iv (a0 + 1))]) [3, 1, 0] rfl (t_f_X12_actsOf_L28 X (fun k15 t16 h => ?_) N 1 (a0 + 1) t h)
      · refine g_iload_n X dX12_actsOf_91 0 rfl ?_
        exact g_iret X h dX12_actsOf_92
    · refine g_iconst X dX12_actsOf_19 ?_
      exact g_iret X h dX12_actsOf_20
set_option maxHeartbeats 4000000 in
set_option maxRecDepth 100000 in
theorem cp_X12_actsOf (l : Launch) (E : cE) (r : Nat → Nat) (N : Nat) (a0 : Int) (t : St) (z : Int × St) (h : f_X12_actsOf N a0 t = some z) : cM l E yX12_actsOf cX12_actsOf 5 (some .int) rm_f_X12_actsOf [.ref (r 200), iv a0] (gW E r shM t) (gqI E (gW E r shM) z) := by
  refine g_of (w := gW E r shM) (by decide) (Nat.le_of_ble_eq_true rfl) ?_
  intro p e s m below meth c A X
  exact g_sub (lv' := [(0, .ref (r 200)), (1, iv a0)]) [0, 1] rfl (b_f_X12_actsOf X h)
theorem yy_X12_actsOf : cY yX12_actsOf cX12_actsOf 5 (some .int) 1 := ⟨wdK_X12_actsOf, wdZ_RX12, by decide +kernel⟩
theorem yi_X12_actsOf : cYi yX12_actsOf := ⟨wdN_X12_actsOf, wdS_X12_actsOf⟩
theorem dX12_acted_0 : decode cX12_acted 0 = .ok (.aload_n 0, 1) := by decide +kernel
theorem dX12_acted_1 : decode cX12_acted 1 = .ok (.dup, 1) := by decide +kernel
theorem dX12_acted_2 : decode cX12_acted 2 = .ok (.getfield 572, 3) := by decide +kernel
theorem dX12_acted_5 : decode cX12_acted 5 = .ok (.iload_n 1, 1) := by decide +kernel
theorem dX12_acted_6 : decode cX12_acted 6 = .ok (.iadd, 1) := by decide +kernel
theorem dX12_acted_7 : decode cX12_acted 7 = .ok (.putfield 572, 3) := by decide +kernel
theorem dX12_acted_10 : decode cX12_acted 10 = .ok (.aload_n 0, 1) := by decide +kernel
theorem dX12_acted_11 : decode cX12_acted 11 = .ok (.dup, 1) := by decide +kernel
theorem dX12_acted_12 : decode cX12_acted 12 = .ok (.getfield 599, 3) := by decide +kernel
theorem dX12_acted_15 : decode cX12_acted 15 = .ok (.iload_n 1, 1) := by decide +kernel
theorem dX12_acted_16 : decode cX12_acted 16 = .ok (.iadd, 1) := by decide +kernel
theorem dX12_acted_17 : decode cX12_acted 17 = .ok (.putfield 599, 3) := by decide +kernel
theorem dX12_acted_20 : decode cX12_acted 20 = .ok (.aload_n 0, 1) := by decide +kernel
theorem dX12_acted_21 : decode cX12_acted 21 = .ok (.getfield 572, 3) := by decide +kernel
theorem dX12_acted_24 : decode cX12_acted 24 = .ok (.sipush 2000, 3) := by decide +kernel
theorem dX12_acted_27 : decode cX12_acted 27 = .ok (.if_icmp .le 5, 3) := by decide +kernel
theorem dX12_acted_30 : decode cX12_acted 30 = .ok (.iconst 3, 1) := by decide +kernel
theorem dX12_acted_31 : decode cX12_acted 31 = .ok (.ireturn, 1) := by decide +kernel
theorem dX12_acted_32 : decode cX12_acted 32 = .ok (.aload_n 0, 1) := by decide +kernel
theorem dX12_acted_33 : decode cX12_acted 33 = .ok (.getfield 602, 3) := by decide +kernel
theorem dX12_acted_36 : decode cX12_acted 36 = .ok (.ifCond .eq 17, 3) := by decide +kernel
theorem dX12_acted_39 : decode cX12_acted 39 = .ok (.aload_n 0, 1) := by decide +kernel
theorem dX12_acted_40 : decode cX12_acted 40 = .ok (.getfield 599, 3) := by decide +kernel
theorem dX12_acted_43 : decode cX12_acted 43 = .ok (.sipush 20000, 3) := by decide +kernel
theorem dX12_acted_46 : decode cX12_acted 46 = .ok (.if_icmp .le 7, 3) := by decide +kernel
theorem dX12_acted_49 : decode cX12_acted 49 = .ok (.iconst 4, 1) := by decide +kernel
theorem dX12_acted_50 : decode cX12_acted 50 = .ok (.goto 4, 3) := by decide +kernel
theorem dX12_acted_53 : decode cX12_acted 53 = .ok (.iconst 0, 1) := by decide +kernel
theorem dX12_acted_54 : decode cX12_acted 54 = .ok (.ireturn, 1) := by decide +kernel
abbrev rm_f_X12_acted : Room := { frames := 0, cells := 0, slots := 0, locals := 0 }
def f_X12_acted (N : Nat) (a0 : Int) (t : St) : Option (Int × St) :=
    lt1 (t.1 200 52) fun v1 =>
    lt1 (pI t 200 52 (v1 + a0)) fun t2 =>
    lt1 (t2.1 200 53) fun v3 =>
    lt1 (pI t2 200 53 (v3 + a0)) fun t4 =>
    lt1 (t4.1 200 52) fun v5 =>
    cmpI v5 2000 (if 2000 < v5 then (some (3, t4))
    else (lt1 (t4.1 200 54) fun v6 =>
    cmpI v6 0 (if v6 = 0 then (some (0, t4))
    else (lt1 (t4.1 200 53) fun v7 =>
    cmpI v7 20000 (if 20000 < v7 then (some (4, t4))
    else (some (0, t4)))))))
set_option maxHeartbeats 4000000 in
set_option maxRecDepth 100000 in
theorem b_f_X12_acted {p : Program} {l : Launch} {e : Env} {s : State} {m : MethodId} {args : Array Value} {below : List Frame} {meth : Method} {c : Code} {E : cE} {A : Nat → Prop} {r : Nat → Nat} {mc ms : Nat} {z : Int × St} {N : Nat} {a0 : Int} {t : St} (X : gX p s m meth c cX12_acted 2 (some .int) yX12_acted args E A) (h : f_X12_acted N a0 t = some z) : gP p l e rm_f_X12_acted s m args below meth c E A 2 (MQ below ((gqI E (gW E r shM) z) A) args s mc ms A) (gW E r shM) 0 [(0, .ref (r 200)), (1, iv a0)] [] t := by
  unfold f_X12_acted at h
  refine g_aload_n X dX12_acted_0 0 rfl ?_
  refine g_dup X rfl dX12_acted_1 ?_
  refine g_getI X fM_52 rfl dX12_acted_2 h (fun v1 h => ?_)
  refine g_iload_n X dX12_acted_5 1 rfl ?_
  refine g_iadd X dX12_acted_6 ?_
  refine g_putI X fM_52w rfl dX12_acted_7 h (fun t2 h => ?_)
  refine g_aload_n X dX12_acted_10 0 rfl ?_
  refine g_dup X rfl dX12_acted_11 ?_
  refine g_getI X fM_53 rfl dX12_acted_12 h (fun v3 h => ?_)
  refine g_iload_n X dX12_acted_15 1 rfl ?_
  refine g_iadd X dX12_acted_16 ?_
  refine g_putI X fM_53w rfl dX12_acted_17 h (fun t4 h => ?_)
  refine g_aload_n X dX12_acted_20 0 rfl ?_
  refine g_getI X fM_52 rfl dX12_acted_21 h (fun v5 h => ?_)
  refine g_sipush X dX12_acted_24 (by decide) ?_
  refine g_icmp_le (tgt := 32) X dX12_acted_27 (by decide) h (fun h => ?_) (fun h => ?_)
  · refine g_aload_n X dX12_acted_32 0 rfl ?_
    refine g_getI X fM_54 rfl dX12_acted_33 h (fun v6 h => ?_)
    refine g_if_eq (tgt := 53) X dX12_acted_36 (by decide) h (fun h => ?_) (fun h => ?_)
    · refine g_iconst X dX12_acted_53 ?_
      exact g_iret X h dX12_acted_54
    · refine g_aload_n X dX12_acted_39 0 rfl ?_
      refine g_getI X fM_53 rfl dX12_acted_40 h (fun v7 h => ?_)
      refine g_sipush X dX12_acted_43 (by decide) ?_
      refine g_icmp_le (tgt := 53) X dX12_acted_46 (by decide) h (fun h => ?_) (fun h => ?_)
      · refine g_iconst X dX12_acted_53 ?_
        exact g_iret X h dX12_acted_54
      · refine g_iconst X dX12_acted_49 ?_
        refine g_goto (tgt := 54) X dX12_acted_50 (by decide) ?_
        exact g_iret X h dX12_acted_54
  · refine g_iconst X dX12_acted_30 ?_
    exact g_iret X h dX12_acted_31
set_option maxHeartbeats 4000000 in
set_option maxRecDepth 100000 in
theorem cp_X12_acted (l : Launch) (E : cE) (r : Nat → Nat) (N : Nat) (a0 : Int) (t : St) (z : Int × St) (h : f_X12_acted N a0 t = some z) : cM l E yX12_acted cX12_acted 2 (some .int) rm_f_X12_acted [.ref (r 200), iv a0] (gW E r shM t) (gqI E (gW E r shM) z) := by
  refine g_of (w := gW E r shM) (by decide) (Nat.le_of_ble_eq_true rfl) ?_
  intro p e s m below meth c A X
  exact g_sub (lv' := [(0, .ref (r 200)), (1, iv a0)]) [0, 1] rfl (b_f_X12_acted X h)
theorem yy_X12_acted : cY yX12_acted cX12_acted 2 (some .int) 1 := ⟨wdK_X12_acted, wdZ_RX12, by decide +kernel⟩
theorem yi_X12_acted : cYi yX12_acted := ⟨wdN_X12_acted, wdS_X12_acted⟩
theorem dX12_savesFloor_0 : decode cX12_savesFloor 0 = .ok (.iconst 0, 1) := by decide +kernel
theorem dX12_savesFloor_1 : decode cX12_savesFloor 1 = .ok (.istore_n 1, 1) := by decide +kernel
theorem dX12_savesFloor_2 : decode cX12_savesFloor 2 = .ok (.iload_n 1, 1) := by decide +kernel
theorem dX12_savesFloor_3 : decode cX12_savesFloor 3 = .ok (.bipush 64, 2) := by decide +kernel
theorem dX12_savesFloor_5 : decode cX12_savesFloor 5 = .ok (.if_icmp .ge 68, 3) := by decide +kernel
theorem dX12_savesFloor_8 : decode cX12_savesFloor 8 = .ok (.aload_n 0, 1) := by decide +kernel
theorem dX12_savesFloor_9 : decode cX12_savesFloor 9 = .ok (.getfield 202, 3) := by decide +kernel
theorem dX12_savesFloor_12 : decode cX12_savesFloor 12 = .ok (.iload_n 1, 1) := by decide +kernel
theorem dX12_savesFloor_13 : decode cX12_savesFloor 13 = .ok (.aload_n 0, 1) := by decide +kernel
theorem dX12_savesFloor_14 : decode cX12_savesFloor 14 = .ok (.getfield 71, 3) := by decide +kernel
theorem dX12_savesFloor_17 : decode cX12_savesFloor 17 = .ok (.iload_n 1, 1) := by decide +kernel
theorem dX12_savesFloor_18 : decode cX12_savesFloor 18 = .ok (.iaload, 1) := by decide +kernel
theorem dX12_savesFloor_19 : decode cX12_savesFloor 19 = .ok (.iastore, 1) := by decide +kernel
theorem dX12_savesFloor_20 : decode cX12_savesFloor 20 = .ok (.aload_n 0, 1) := by decide +kernel
theorem dX12_savesFloor_21 : decode cX12_savesFloor 21 = .ok (.getfield 202, 3) := by decide +kernel
theorem dX12_savesFloor_24 : decode cX12_savesFloor 24 = .ok (.bipush 64, 2) := by decide +kernel
theorem dX12_savesFloor_26 : decode cX12_savesFloor 26 = .ok (.iload_n 1, 1) := by decide +kernel
theorem dX12_savesFloor_27 : decode cX12_savesFloor 27 = .ok (.iadd, 1) := by decide +kernel
theorem dX12_savesFloor_28 : decode cX12_savesFloor 28 = .ok (.aload_n 0, 1) := by decide +kernel
theorem dX12_savesFloor_29 : decode cX12_savesFloor 29 = .ok (.getfield 74, 3) := by decide +kernel
theorem dX12_savesFloor_32 : decode cX12_savesFloor 32 = .ok (.iload_n 1, 1) := by decide +kernel
theorem dX12_savesFloor_33 : decode cX12_savesFloor 33 = .ok (.iaload, 1) := by decide +kernel
theorem dX12_savesFloor_34 : decode cX12_savesFloor 34 = .ok (.iastore, 1) := by decide +kernel
theorem dX12_savesFloor_35 : decode cX12_savesFloor 35 = .ok (.aload_n 0, 1) := by decide +kernel
theorem dX12_savesFloor_36 : decode cX12_savesFloor 36 = .ok (.getfield 202, 3) := by decide +kernel
theorem dX12_savesFloor_39 : decode cX12_savesFloor 39 = .ok (.sipush 128, 3) := by decide +kernel
theorem dX12_savesFloor_42 : decode cX12_savesFloor 42 = .ok (.iload_n 1, 1) := by decide +kernel
theorem dX12_savesFloor_43 : decode cX12_savesFloor 43 = .ok (.iadd, 1) := by decide +kernel
theorem dX12_savesFloor_44 : decode cX12_savesFloor 44 = .ok (.aload_n 0, 1) := by decide +kernel
theorem dX12_savesFloor_45 : decode cX12_savesFloor 45 = .ok (.getfield 77, 3) := by decide +kernel
theorem dX12_savesFloor_48 : decode cX12_savesFloor 48 = .ok (.iload_n 1, 1) := by decide +kernel
theorem dX12_savesFloor_49 : decode cX12_savesFloor 49 = .ok (.iaload, 1) := by decide +kernel
theorem dX12_savesFloor_50 : decode cX12_savesFloor 50 = .ok (.iastore, 1) := by decide +kernel
theorem dX12_savesFloor_51 : decode cX12_savesFloor 51 = .ok (.aload_n 0, 1) := by decide +kernel
theorem dX12_savesFloor_52 : decode cX12_savesFloor 52 = .ok (.getfield 202, 3) := by decide +kernel
theorem dX12_savesFloor_55 : decode cX12_savesFloor 55 = .ok (.sipush 192, 3) := by decide +kernel
theorem dX12_savesFloor_58 : decode cX12_savesFloor 58 = .ok (.iload_n 1, 1) := by decide +kernel
theorem dX12_savesFloor_59 : decode cX12_savesFloor 59 = .ok (.iadd, 1) := by decide +kernel
theorem dX12_savesFloor_60 : decode cX12_savesFloor 60 = .ok (.aload_n 0, 1) := by decide +kernel
theorem dX12_savesFloor_61 : decode cX12_savesFloor 61 = .ok (.getfield 80, 3) := by decide +kernel
theorem dX12_savesFloor_64 : decode cX12_savesFloor 64 = .ok (.iload_n 1, 1) := by decide +kernel
theorem dX12_savesFloor_65 : decode cX12_savesFloor 65 = .ok (.iaload, 1) := by decide +kernel
theorem dX12_savesFloor_66 : decode cX12_savesFloor 66 = .ok (.iastore, 1) := by decide +kernel
theorem dX12_savesFloor_67 : decode cX12_savesFloor 67 = .ok (.iinc 1 1, 3) := by decide +kernel
theorem dX12_savesFloor_70 : decode cX12_savesFloor 70 = .ok (.goto (-68), 3) := by decide +kernel
theorem dX12_savesFloor_73 : decode cX12_savesFloor 73 = .ok (.return_, 1) := by decide +kernel
abbrev rm_f_X12_savesFloor : Room := { frames := 0, cells := 0, slots := 0, locals := 0 }
def f_X12_savesFloor_L2 (K3 : (St → Option (St))) : Nat → Int → St → Option (St)
  | 0, _, _ => none
  | n9 + 1, x1, t2 =>
    cmpI x1 64 (if x1 < 64 then (ixI x1 64 (lt1 (t2.1 38 x1.toNat) fun v4 =>
    ixI x1 256 (lt1 (pI t2 104 x1.toNat v4) fun t5 =>
    ixI x1 64 (lt1 (t5.1 39 x1.toNat) fun v6 =>
    ixI (64 + x1) 256 (lt1 (pI t5 104 (64 + x1).toNat v6) fun t7 =>
    ixI x1 64 (lt1 (t7.1 40 x1.toNat) fun v8 =>
    ixI (128 + x1) 256 (lt1 (pI t7 104 (128 + x1).toNat v8) fun t9 =>
    ixI x1 64 (lt1 (t9.1 41 x1.toNat) fun v10 =>
    ixI (192 + x1) 256 (lt1 (pI t9 104 (192 + x1).toNat v10) fun t11 =>
    f_X12_savesFloor_L2 K3 n9 (x1 + 1) t11)))))))))
    else (K3 t2))
def f_X12_savesFloor (N : Nat) (t : St) : Option (St) :=
    f_X12_savesFloor_L2 (fun (t12 : St) => some t12) N 0 t
set_option maxHeartbeats 4000000 in
set_option maxRecDepth 100000 in
theorem t_f_X12_savesFloor_L2 {p : Program} {l : Launch} {e : Env} {s : State} {m : MethodId} {args : Array Value} {below : List Frame} {meth : Method} {c : Code} {E : cE} {A : Nat → Prop} {r : Nat → Nat} {mc ms : Nat} {z : St} {K3 : (St → Option (St))} (X : gX p s m meth c cX12_savesFloor 2 none yX12_savesFloor args E A) (hK3 : ∀ (t9 : St), K3 t9 = some z → gP p l e rm_f_X12_savesFloor s m args below meth c E A 2 (MQ below ((gqV E (gW E r shM) z) A) args s mc ms A) (gW E r shM) 73 [] [] t9) : ∀ (n9 : Nat) (x1 : Int) (t2 : St), f_X12_savesFloor_L2 K3 n9 x1 t2 = some z → gP p l e rm_f_X12_savesFloor s m args below meth c E A 2 (MQ below ((gqV E (gW E r shM) z) A) args s mc ms A) (gW E r shM) 2 [(0, .ref (r 200)), (1, iv x1)] [] t2 := by
  intro n9
  induction n9 with
  | zero => intro x1 t2 h; cases h
  | succ n9 ih =>
    intro x1 t2 h
    unfold f_X12_savesFloor_L2 at h
    refine g_iload_n X dX12_savesFloor_2 1 rfl ?_
    refine g_bipush X dX12_savesFloor_3 (by decide) ?_
    refine g_icmp_ge (tgt := 73) X dX12_savesFloor_5 (by decide) h (fun h => ?_) (fun h => ?_)
    · exact g_sub (lv' := []) [] rfl (hK3 t2 h)
    · refine g_aload_n X dX12_savesFloor_8 0 rfl ?_
      refine g_getR X fM_104 rfl dX12_savesFloor_9 ?_
      refine g_iload_n X dX12_savesFloor_12 1 rfl ?_
      refine g_aload_n X dX12_savesFloor_13 0 rfl ?_
      refine g_getR X fM_38 rfl dX12_savesFloor_14 ?_
      refine g_iload_n X dX12_savesFloor_17 1 rfl ?_
      refine g_iald X aM_38 dX12_savesFloor_18 h (fun v4 h => ?_)
      refine g_iast X aM_104 dX12_savesFloor_19 h (fun t5 h => ?_)
      refine g_aload_n X dX12_savesFloor_20 0 rfl ?_
      refine g_getR X fM_104 rfl dX12_savesFloor_21 ?_
      refine g_bipush X dX12_savesFloor_24 (by decide) ?_
      refine g_iload_n X dX12_savesFloor_26 1 rfl ?_
      refine g_iadd X dX12_savesFloor_27 ?_
      refine g_aload_n X dX12_savesFloor_28 0 rfl ?_
      refine g_getR X fM_39 rfl dX12_savesFloor_29 ?_
      refine g_iload_n X dX12_savesFloor_32 1 rfl ?_
      refine g_iald X aM_39 dX12_savesFloor_33 h (fun v6 h => ?_)
      refine g_iast X aM_104 dX12_savesFloor_34 h (fun t7 h => ?_)
      refine g_aload_n X dX12_savesFloor_35 0 rfl ?_
      refine g_getR X fM_104 rfl dX12_savesFloor_36 ?_
      refine g_sipush X dX12_savesFloor_39 (by decide) ?_
      refine g_iload_n X dX12_savesFloor_42 1 rfl ?_
      refine g_iadd X dX12_savesFloor_43 ?_
      refine g_aload_n X dX12_savesFloor_44 0 rfl ?_
      refine g_getR X fM_40 rfl dX12_savesFloor_45 ?_
      refine g_iload_n X dX12_savesFloor_48 1 rfl ?_
      refine g_iald X aM_40 dX12_savesFloor_49 h (fun v8 h => ?_)
      refine g_iast X aM_104 dX12_savesFloor_50 h (fun t9 h => ?_)
      refine g_aload_n X dX12_savesFloor_51 0 rfl ?_
      refine g_getR X fM_104 rfl dX12_savesFloor_52 ?_
      refine g_sipush X dX12_savesFloor_55 (by decide) ?_
      refine g_iload_n X dX12_savesFloor_58 1 rfl ?_
      refine g_iadd X dX12_savesFloor_59 ?_
      refine g_aload_n X dX12_savesFloor_60 0 rfl ?_
      refine g_getR X fM_41 rfl dX12_savesFloor_61 ?_
      refine g_iload_n X dX12_savesFloor_64 1 rfl ?_
      refine g_iald X aM_41 dX12_savesFloor_65 h (fun v10 h => ?_)
      refine g_iast X aM_104 dX12_savesFloor_66 h (fun t11 h => ?_)
      refine g_iinc (lv' := [(1, iv (x1 + 1)), (0, .ref (r 200))]) X dX12_savesFloor_67 (k := 1) rfl (by decide) rfl ?_
      refine g_goto (tgt := 2) X dX12_savesFloor_70 (by decide) ?_
      exact g_sub (lv' := [(0, .ref (r 200)), (1, iv (x1 + 1))]) [1, 0] rfl (ih (x1 + 1) t11 h)
set_option maxHeartbeats 4000000 in
set_option maxRecDepth 100000 in
theorem b_f_X12_savesFloor {p : Program} {l : Launch} {e : Env} {s : State} {m : MethodId} {args : Array Value} {below : List Frame} {meth : Method} {c : Code} {E : cE} {A : Nat → Prop} {r : Nat → Nat} {mc ms : Nat} {z : St} {N : Nat} {t : St} (X : gX p s m meth c cX12_savesFloor 2 none yX12_savesFloor args E A) (h : f_X12_savesFloor N t = some z) : gP p l e rm_f_X12_savesFloor s m args below meth c E A 2 (MQ below ((gqV E (gW E r shM) z) A) args s mc ms A) (gW E r shM) 0 [(0, .ref (r 200))] [] t := by
  unfold f_X12_savesFloor at h
  refine g_iconst X dX12_savesFloor_0 ?_
  refine g_istore_n (lv' := [(1, iv 0), (0, .ref (r 200))]) X dX12_savesFloor_1 rfl (by decide) rfl ?_
  refine g_sub (lv' := [(0, .ref (r 200)), (1, iv 0)]) [1, 0] rfl (t_f_X12_savesFloor_L2 X (fun t12 h => ?_) N 0 t h)
  · exact g_vret X h dX12_savesFloor_73
set_option maxHeartbeats 4000000 in
set_option maxRecDepth 100000 in
theorem cp_X12_savesFloor (l : Launch) (E : cE) (r : Nat → Nat) (N : Nat) (t : St) (z : St) (h : f_X12_savesFloor N t = some z) : cM l E yX12_savesFloor cX12_savesFloor 2 none rm_f_X12_savesFloor [.ref (r 200)] (gW E r shM t) (gqV E (gW E r shM) z) := by
  refine g_of (w := gW E r shM) (by decide) (Nat.le_of_ble_eq_true rfl) ?_
  intro p e s m below meth c A X
  exact g_sub (lv' := [(0, .ref (r 200))]) [0] rfl (b_f_X12_savesFloor X h)
theorem yy_X12_savesFloor : cY yX12_savesFloor cX12_savesFloor 2 none 0 := ⟨wdK_X12_savesFloor, wdZ_RX12, by decide +kernel⟩
theorem yi_X12_savesFloor : cYi yX12_savesFloor := ⟨wdN_X12_savesFloor, wdS_X12_savesFloor⟩
