abbrev rm_f_J0_isLatin1_aae02 : Room := { frames := 0, cells := 0, slots := 0, locals := 0 }
def f_J0_isLatin1_aae02 (N : Nat) (t : St) : Option (Int × St) :=
    cmpI 1 0 (if 1 = 0 then (boI 0 (some (0, t)))
    else (cmpI 0 0 (if 0 = 0 then (boI 1 (some (1, t)))
    else (boI 0 (some (0, t))))))
set_option maxHeartbeats 4000000 in
set_option maxRecDepth 100000 in
theorem b_f_J0_isLatin1_aae02 {p : Program} {l : Launch} {e : Env} {s : State} {m : MethodId} {args : Array Value} {below : List Frame} {meth : Method} {c : Code} {E : cE} {A : Nat → Prop} {r : Nat → Nat} {mc ms : Nat} {z : Int × St} {N : Nat} {t : St} (X : gX p s m meth c cJ0_isLatin1_aae02 1 (some .boolean) yJ0_isLatin1_aae02 args E A) (h : f_J0_isLatin1_aae02 N t = some z) : gP p l e rm_f_J0_isLatin1_aae02 s m args below meth c E A 1 (MQ below ((gqI E (gW E r shH) z) A) args s mc ms A) (gW E r shH) 0 [(0, .ref (E.2.2 4))] [] t := by
  unfold f_J0_isLatin1_aae02 at h
  refine g_getCS X rfl wdF_RJ0_38 dJ0_isLatin1_aae02_0 ?_
  refine g_if_eq (x := (boI 0 (some (0, t)))) (y := (cmpI 0 0 (if 0 = 0 then (boI 1 (some (1, t))) else (boI 0 (some (0, t)))))) (tgt := 17) X dJ0_isLatin1_aae02_3 (by decide) h (fun h => ?_) (fun h => ?_)
  · refine g_iconst X dJ0_isLatin1_aae02_17 ?_
    exact g_zret X h dJ0_isLatin1_aae02_18
  · refine g_aload_n X dJ0_isLatin1_aae02_6 0 rfl ?_
    refine g_getSC X rfl wdF_RJ0_15 dJ0_isLatin1_aae02_7 ?_
    refine g_if_ne (x := (boI 0 (some (0, t)))) (y := (boI 1 (some (1, t)))) (tgt := 17) X dJ0_isLatin1_aae02_10 (by decide) h (fun h => ?_) (fun h => ?_)
    · refine g_iconst X dJ0_isLatin1_aae02_17 ?_
      exact g_zret X h dJ0_isLatin1_aae02_18
    · refine g_iconst X dJ0_isLatin1_aae02_13 ?_
      refine g_goto (tgt := 18) X dJ0_isLatin1_aae02_14 (by decide) ?_
      exact g_zret X h dJ0_isLatin1_aae02_18
set_option maxHeartbeats 4000000 in
set_option maxRecDepth 100000 in
theorem cp_J0_isLatin1_aae02 (l : Launch) (E : cE) (r : Nat → Nat) (N : Nat) (t : St) (z : Int × St) (h : f_J0_isLatin1_aae02 N t = some z) : cM l E yJ0_isLatin1_aae02 cJ0_isLatin1_aae02 1 (some .boolean) rm_f_J0_isLatin1_aae02 [.ref (E.2.2 4)] (gW E r shH t) (gqI E (gW E r shH) z) := by
  refine g_of (w := gW E r shH) (by decide) (Nat.le_of_ble_eq_true rfl) ?_
  intro p e s m below meth c A X
  exact g_sub (lv' := [(0, .ref (E.2.2 4))]) [0] rfl (b_f_J0_isLatin1_aae02 X h)
abbrev rm_f_J0_coder_7d493 : Room := { frames := 0, cells := 0, slots := 0, locals := 0 }
def f_J0_coder_7d493 (N : Nat) (t : St) : Option (Int × St) :=
    cmpI 1 0 (if 1 = 0 then (some (1, t))
    else (some (0, t)))
set_option maxHeartbeats 4000000 in
set_option maxRecDepth 100000 in
theorem b_f_J0_coder_7d493 {p : Program} {l : Launch} {e : Env} {s : State} {m : MethodId} {args : Array Value} {below : List Frame} {meth : Method} {c : Code} {E : cE} {A : Nat → Prop} {r : Nat → Nat} {mc ms : Nat} {z : Int × St} {N : Nat} {t : St} (X : gX p s m meth c cJ0_coder_7d493 1 (some .byte) yJ0_coder_7d493 args E A) (h : f_J0_coder_7d493 N t = some z) : gP p l e rm_f_J0_coder_7d493 s m args below meth c E A 1 (MQ below ((gqI E (gW E r shH) z) A) args s mc ms A) (gW E r shH) 0 [(0, .ref (E.2.2 4))] [] t := by
  unfold f_J0_coder_7d493 at h
  refine g_getCS X rfl wdF_RJ0_38 dJ0_coder_7d493_0 ?_
  refine g_if_eq (x := (some (1, t))) (y := (some (0, t))) (tgt := 13) X dJ0_coder_7d493_3 (by decide) h (fun h => ?_) (fun h => ?_)
  · refine g_iconst X dJ0_coder_7d493_13 ?_
    exact g_bret X h (by decide) dJ0_coder_7d493_14
  · refine g_aload_n X dJ0_coder_7d493_6 0 rfl ?_
    refine g_getSC X rfl wdF_RJ0_15 dJ0_coder_7d493_7 ?_
    refine g_goto (tgt := 14) X dJ0_coder_7d493_10 (by decide) ?_
    exact g_bret X h (by decide) dJ0_coder_7d493_14
set_option maxHeartbeats 4000000 in
set_option maxRecDepth 100000 in
theorem cp_J0_coder_7d493 (l : Launch) (E : cE) (r : Nat → Nat) (N : Nat) (t : St) (z : Int × St) (h : f_J0_coder_7d493 N t = some z) : cM l E yJ0_coder_7d493 cJ0_coder_7d493 1 (some .byte) rm_f_J0_coder_7d493 [.ref (E.2.2 4)] (gW E r shH t) (gqI E (gW E r shH) z) := by
  refine g_of (w := gW E r shH) (by decide) (Nat.le_of_ble_eq_true rfl) ?_
  intro p e s m below meth c A X
  exact g_sub (lv' := [(0, .ref (E.2.2 4))]) [0] rfl (b_f_J0_coder_7d493 X h)
abbrev rm_f_J0_length_8abf5 : Room := { frames := 1, cells := 0, slots := 0, locals := 20 }
def f_J0_length_8abf5 (N : Nat) (t : St) : Option (Int × St) :=
    bdI (f_J0_coder_7d493 N t) fun v2 t1 =>
    some (ishrZ 8 v2, t1)
set_option maxHeartbeats 4000000 in
set_option maxRecDepth 100000 in
theorem b_f_J0_length_8abf5 {p : Program} {l : Launch} {e : Env} {s : State} {m : MethodId} {args : Array Value} {below : List Frame} {meth : Method} {c : Code} {E : cE} {A : Nat → Prop} {r : Nat → Nat} {mc ms : Nat} {z : Int × St} {N : Nat} {t : St} (X : gX p s m meth c cJ0_length_8abf5 1 (some .int) yJ0_length_8abf5 args E A) (h : f_J0_length_8abf5 N t = some z) : gP p l e rm_f_J0_length_8abf5 s m args below meth c E A 1 (MQ below ((gqI E (gW E r shH) z) A) args s mc ms A) (gW E r shH) 0 [(0, .ref (E.2.2 4))] [] t := by
  unfold f_J0_length_8abf5 at h
  refine g_aload_n X dJ0_length_8abf5_0 0 rfl ?_
  refine g_getSV X rfl wdF_RJ0_9 dJ0_length_8abf5_1 ?_
  refine g_alenS X dJ0_length_8abf5_4 ?_
  refine g_aload_n X dJ0_length_8abf5_5 0 rfl ?_
  refine g_callTI (rest := [iv 8]) X (fun u9 h9 => cp_J0_coder_7d493 l E r N t u9 h9) yy_J0_coder_7d493 yi_J0_coder_7d493 wdM_RJ0_335 (gZs X).2.2.1.1 rfl rfl (Nat.le_of_ble_eq_true rfl) dJ0_length_8abf5_6 ⟨by decide, by decide⟩ ⟨rfl, rfl⟩ h (fun v2 t1 h => ?_)
  refine g_ishrV X dJ0_length_8abf5_9 ?_
  exact g_iret X h dJ0_length_8abf5_10
set_option maxHeartbeats 4000000 in
set_option maxRecDepth 100000 in
theorem cp_J0_length_8abf5 (l : Launch) (E : cE) (r : Nat → Nat) (N : Nat) (t : St) (z : Int × St) (h : f_J0_length_8abf5 N t = some z) : cM l E yJ0_length_8abf5 cJ0_length_8abf5 1 (some .int) rm_f_J0_length_8abf5 [.ref (E.2.2 4)] (gW E r shH t) (gqI E (gW E r shH) z) := by
  refine g_of (w := gW E r shH) (by decide) (Nat.le_of_ble_eq_true rfl) ?_
  intro p e s m below meth c A X
  exact g_sub (lv' := [(0, .ref (E.2.2 4))]) [0] rfl (b_f_J0_length_8abf5 X h)
theorem dJ1_canEncode_9a6ad_0 : decode cJ1_canEncode_9a6ad 0 = .ok (.iload_n 0, 1) := by decide +kernel
theorem dJ1_canEncode_9a6ad_1 : decode cJ1_canEncode_9a6ad 1 = .ok (.ifCond .lt 14, 3) := by decide +kernel
theorem dJ1_canEncode_9a6ad_4 : decode cJ1_canEncode_9a6ad 4 = .ok (.iload_n 0, 1) := by decide +kernel
theorem dJ1_canEncode_9a6ad_5 : decode cJ1_canEncode_9a6ad 5 = .ok (.sipush 255, 3) := by decide +kernel
theorem dJ1_canEncode_9a6ad_8 : decode cJ1_canEncode_9a6ad 8 = .ok (.if_icmp .gt 7, 3) := by decide +kernel
theorem dJ1_canEncode_9a6ad_11 : decode cJ1_canEncode_9a6ad 11 = .ok (.iconst 1, 1) := by decide +kernel
theorem dJ1_canEncode_9a6ad_12 : decode cJ1_canEncode_9a6ad 12 = .ok (.goto 4, 3) := by decide +kernel
theorem dJ1_canEncode_9a6ad_15 : decode cJ1_canEncode_9a6ad 15 = .ok (.iconst 0, 1) := by decide +kernel
theorem dJ1_canEncode_9a6ad_16 : decode cJ1_canEncode_9a6ad 16 = .ok (.ireturn, 1) := by decide +kernel
abbrev rm_f_J1_canEncode_9a6ad : Room := { frames := 0, cells := 0, slots := 0, locals := 0 }
def f_J1_canEncode_9a6ad (N : Nat) (a0 : Int) (t : St) : Option (Int × St) :=
    cmpI a0 0 (if a0 < 0 then (boI 0 (some (0, t)))
    else (cmpI a0 255 (if 255 < a0 then (boI 0 (some (0, t)))
    else (boI 1 (some (1, t))))))
set_option maxHeartbeats 4000000 in
set_option maxRecDepth 100000 in
theorem b_f_J1_canEncode_9a6ad {p : Program} {l : Launch} {e : Env} {s : State} {m : MethodId} {args : Array Value} {below : List Frame} {meth : Method} {c : Code} {E : cE} {A : Nat → Prop} {r : Nat → Nat} {mc ms : Nat} {z : Int × St} {N : Nat} {a0 : Int} {t : St} (X : gX p s m meth c cJ1_canEncode_9a6ad 1 (some .boolean) yJ1_canEncode_9a6ad args E A) (h : f_J1_canEncode_9a6ad N a0 t = some z) : gP p l e rm_f_J1_canEncode_9a6ad s m args below meth c E A 1 (MQ below ((gqI E (gW E r shH) z) A) args s mc ms A) (gW E r shH) 0 [(0, iv a0)] [] t := by
  unfold f_J1_canEncode_9a6ad at h
  refine g_iload_n X dJ1_canEncode_9a6ad_0 0 rfl ?_
  refine g_if_lt (tgt := 15) X dJ1_canEncode_9a6ad_1 (by decide) h (fun h => ?_) (fun h => ?_)
  · refine g_iconst X dJ1_canEncode_9a6ad_15 ?_
    exact g_zret X h dJ1_canEncode_9a6ad_16
  · refine g_iload_n X dJ1_canEncode_9a6ad_4 0 rfl ?_
    refine g_sipush X dJ1_canEncode_9a6ad_5 (by decide) ?_
    refine g_icmp_gt (tgt := 15) X dJ1_canEncode_9a6ad_8 (by decide) h (fun h => ?_) (fun h => ?_)
    · refine g_iconst X dJ1_canEncode_9a6ad_15 ?_
      exact g_zret X h dJ1_canEncode_9a6ad_16
    · refine g_iconst X dJ1_canEncode_9a6ad_11 ?_
      refine g_goto (tgt := 16) X dJ1_canEncode_9a6ad_12 (by decide) ?_
      exact g_zret X h dJ1_canEncode_9a6ad_16
set_option maxHeartbeats 4000000 in
set_option maxRecDepth 100000 in
theorem cp_J1_canEncode_9a6ad (l : Launch) (E : cE) (r : Nat → Nat) (N : Nat) (a0 : Int) (t : St) (z : Int × St) (h : f_J1_canEncode_9a6ad N a0 t = some z) : cM l E yJ1_canEncode_9a6ad cJ1_canEncode_9a6ad 1 (some .boolean) rm_f_J1_canEncode_9a6ad [iv a0] (gW E r shH t) (gqI E (gW E r shH) z) := by
  refine g_of (w := gW E r shH) (by decide) (Nat.le_of_ble_eq_true rfl) ?_
  intro p e s m below meth c A X
  exact g_sub (lv' := [(0, iv a0)]) [0] rfl (b_f_J1_canEncode_9a6ad X h)
theorem yy_J1_canEncode_9a6ad : cY yJ1_canEncode_9a6ad cJ1_canEncode_9a6ad 1 (some .boolean) 1 := ⟨wdK_J1_canEncode_9a6ad, wdZ_RJ1, by decide +kernel⟩
theorem dJ1_indexOfChar_4cfef_0 : decode cJ1_indexOfChar_4cfef 0 = .ok (.iload_n 1, 1) := by decide +kernel
theorem dJ1_indexOfChar_4cfef_1 : decode cJ1_indexOfChar_4cfef 1 = .ok (.i2b, 1) := by decide +kernel
theorem dJ1_indexOfChar_4cfef_2 : decode cJ1_indexOfChar_4cfef 2 = .ok (.istore 4, 2) := by decide +kernel
theorem dJ1_indexOfChar_4cfef_4 : decode cJ1_indexOfChar_4cfef 4 = .ok (.iload_n 2, 1) := by decide +kernel
theorem dJ1_indexOfChar_4cfef_5 : decode cJ1_indexOfChar_4cfef 5 = .ok (.istore 5, 2) := by decide +kernel
theorem dJ1_indexOfChar_4cfef_7 : decode cJ1_indexOfChar_4cfef 7 = .ok (.iload 5, 2) := by decide +kernel
theorem dJ1_indexOfChar_4cfef_9 : decode cJ1_indexOfChar_4cfef 9 = .ok (.iload_n 3, 1) := by decide +kernel
theorem dJ1_indexOfChar_4cfef_10 : decode cJ1_indexOfChar_4cfef 10 = .ok (.if_icmp .ge 21, 3) := by decide +kernel
theorem dJ1_indexOfChar_4cfef_13 : decode cJ1_indexOfChar_4cfef 13 = .ok (.aload_n 0, 1) := by decide +kernel
theorem dJ1_indexOfChar_4cfef_14 : decode cJ1_indexOfChar_4cfef 14 = .ok (.iload 5, 2) := by decide +kernel
theorem dJ1_indexOfChar_4cfef_16 : decode cJ1_indexOfChar_4cfef 16 = .ok (.baload, 1) := by decide +kernel
theorem dJ1_indexOfChar_4cfef_17 : decode cJ1_indexOfChar_4cfef 17 = .ok (.iload 4, 2) := by decide +kernel
theorem dJ1_indexOfChar_4cfef_19 : decode cJ1_indexOfChar_4cfef 19 = .ok (.if_icmp .ne 6, 3) := by decide +kernel
theorem dJ1_indexOfChar_4cfef_22 : decode cJ1_indexOfChar_4cfef 22 = .ok (.iload 5, 2) := by decide +kernel
theorem dJ1_indexOfChar_4cfef_24 : decode cJ1_indexOfChar_4cfef 24 = .ok (.ireturn, 1) := by decide +kernel
theorem dJ1_indexOfChar_4cfef_25 : decode cJ1_indexOfChar_4cfef 25 = .ok (.iinc 5 1, 3) := by decide +kernel
theorem dJ1_indexOfChar_4cfef_28 : decode cJ1_indexOfChar_4cfef 28 = .ok (.goto (-21), 3) := by decide +kernel
theorem dJ1_indexOfChar_4cfef_31 : decode cJ1_indexOfChar_4cfef 31 = .ok (.iconst (-1), 1) := by decide +kernel
theorem dJ1_indexOfChar_4cfef_32 : decode cJ1_indexOfChar_4cfef 32 = .ok (.ireturn, 1) := by decide +kernel
abbrev rm_f_J1_indexOfChar_4cfef : Room := { frames := 0, cells := 0, slots := 0, locals := 0 }
def f_J1_indexOfChar_4cfef_L7 (K5 : (St → Option (Int × St))) (y1 : Int) (y2 : Int) : Nat → Int → St → Option (Int × St)
  | 0, _, _ => none
  | n9 + 1, x3, t4 =>
    cmpI x3 y1 (if x3 < y1 then (ixI x3 8 (lt1 (sqSZ x3.toNat) fun v6 =>
    cmpI v6 y2 (if v6 = y2 then (some (x3, t4))
    else (f_J1_indexOfChar_4cfef_L7 K5 y1 y2 n9 (x3 + 1) t4))))
    else (K5 t4))
def f_J1_indexOfChar_4cfef (N : Nat) (a1 : Int) (a2 : Int) (a3 : Int) (t : St) : Option (Int × St) :=
    f_J1_indexOfChar_4cfef_L7 (fun (t7 : St) => some ((-1), t7)) a3 (b8 a1) N a2 t
set_option maxHeartbeats 4000000 in
set_option maxRecDepth 100000 in
theorem t_f_J1_indexOfChar_4cfef_L7 {p : Program} {l : Launch} {e : Env} {s : State} {m : MethodId} {args : Array Value} {below : List Frame} {meth : Method} {c : Code} {E : cE} {A : Nat → Prop} {r : Nat → Nat} {mc ms : Nat} {z : Int × St} {K5 : (St → Option (Int × St))} {y1 : Int} {y2 : Int} (X : gX p s m meth c cJ1_indexOfChar_4cfef 6 (some .int) yJ1_indexOfChar_4cfef args E A) (hK5 : ∀ (t9 : St), K5 t9 = some z → gP p l e rm_f_J1_indexOfChar_4cfef s m args below meth c E A 6 (MQ below ((gqI E (gW E r shH) z) A) args s mc ms A) (gW E r shH) 31 [] [] t9) : ∀ (n9 : Nat) (x3 : Int) (t4 : St), f_J1_indexOfChar_4cfef_L7 K5 y1 y2 n9 x3 t4 = some z → gP p l e rm_f_J1_indexOfChar_4cfef s m args below meth c E A 6 (MQ below ((gqI E (gW E r shH) z) A) args s mc ms A) (gW E r shH) 7 [(0, .ref (E.2.2 5)), (3, iv y1), (4, iv y2), (5, iv x3)] [] t4 := by
  intro n9
  induction n9 with
  | zero => intro x3 t4 h; cases h
  | succ n9 ih =>
    intro x3 t4 h
    unfold f_J1_indexOfChar_4cfef_L7 at h
    refine g_iload X dJ1_indexOfChar_4cfef_7 3 rfl ?_
    refine g_iload_n X dJ1_indexOfChar_4cfef_9 1 rfl ?_
    refine g_icmp_ge (tgt := 31) X dJ1_indexOfChar_4cfef_10 (by decide) h (fun h => ?_) (fun h => ?_)
    · exact g_sub (lv' := []) [] rfl (hK5 t4 h)
    · refine g_aload_n X dJ1_indexOfChar_4cfef_13 0 rfl ?_
      refine g_iload X dJ1_indexOfChar_4cfef_14 3 rfl ?_
      refine g_aldS X dJ1_indexOfChar_4cfef_16 h (fun v6 h => ?_)
      refine g_iload X dJ1_indexOfChar_4cfef_17 2 rfl ?_
      refine g_icmp_ne (tgt := 25) X dJ1_indexOfChar_4cfef_19 (by decide) h (fun h => ?_) (fun h => ?_)
      · refine g_iinc (lv' := [(5, iv (x3 + 1)), (0, .ref (E.2.2 5)), (3, iv y1), (4, iv y2)]) X dJ1_indexOfChar_4cfef_25 (k := 3) rfl (by decide) rfl ?_
        refine g_goto (tgt := 7) X dJ1_indexOfChar_4cfef_28 (by decide) ?_
        exact g_sub (lv' := [(0, .ref (E.2.2 5)), (3, iv y1), (4, iv y2), (5, iv (x3 + 1))]) [1, 2, 3, 0] rfl (ih (x3 + 1) t4 h)
      · refine g_iload X dJ1_indexOfChar_4cfef_22 3 rfl ?_
        exact g_iret X h dJ1_indexOfChar_4cfef_24
set_option maxHeartbeats 4000000 in
set_option maxRecDepth 100000 in
theorem b_f_J1_indexOfChar_4cfef {p : Program} {l : Launch} {e : Env} {s : State} {m : MethodId} {args : Array Value} {below : List Frame} {meth : Method} {c : Code} {E : cE} {A : Nat → Prop} {r : Nat → Nat} {mc ms : Nat} {z : Int × St} {N : Nat} {a1 : Int} {a2 : Int} {a3 : Int} {t : St} (X : gX p s m meth c cJ1_indexOfChar_4cfef 6 (some .int) yJ1_indexOfChar_4cfef args E A) (h : f_J1_indexOfChar_4cfef N a1 a2 a3 t = some z) : gP p l e rm_f_J1_indexOfChar_4cfef s m args below meth c E A 6 (MQ below ((gqI E (gW E r shH) z) A) args s mc ms A) (gW E r shH) 0 [(0, .ref (E.2.2 5)), (1, iv a1), (2, iv a2), (3, iv a3)] [] t := by
  unfold f_J1_indexOfChar_4cfef at h
  refine g_iload_n X dJ1_indexOfChar_4cfef_0 1 rfl ?_
  refine g_i2b X dJ1_indexOfChar_4cfef_1 ?_
  refine g_istore (lv' := [(4, iv (b8 a1)), (0, .ref (E.2.2 5)), (1, iv a1), (2, iv a2), (3, iv a3)]) X dJ1_indexOfChar_4cfef_2 (by decide) rfl ?_
  refine g_iload_n X dJ1_indexOfChar_4cfef_4 3 rfl ?_
  refine g_istore (lv' := [(5, iv a2), (4, iv (b8 a1)), (0, .ref (E.2.2 5)), (1, iv a1), (2, iv a2), (3, iv a3)]) X dJ1_indexOfChar_4cfef_5 (by decide) rfl ?_
  refine g_sub (lv' := [(0, .ref (E.2.2 5)), (3, iv a3), (4, iv (b8 a1)), (5, iv a2)]) [2, 5, 1, 0] rfl (t_f_J1_indexOfChar_4cfef_L7 X (fun t7 h => ?_) N a2 t h)
  · refine g_iconst X dJ1_indexOfChar_4cfef_31 ?_
    exact g_iret X h dJ1_indexOfChar_4cfef_32
set_option maxHeartbeats 4000000 in
set_option maxRecDepth 100000 in
theorem cp_J1_indexOfChar_4cfef (l : Launch) (E : cE) (r : Nat → Nat) (N : Nat) (a1 : Int) (a2 : Int) (a3 : Int) (t : St) (z : Int × St) (h : f_J1_indexOfChar_4cfef N a1 a2 a3 t = some z) : cM l E yJ1_indexOfChar_4cfef cJ1_indexOfChar_4cfef 6 (some .int) rm_f_J1_indexOfChar_4cfef [.ref (E.2.2 5), iv a1, iv a2, iv a3] (gW E r shH t) (gqI E (gW E r shH) z) := by
  refine g_of (w := gW E r shH) (by decide) (Nat.le_of_ble_eq_true rfl) ?_
  intro p e s m below meth c A X
  exact g_sub (lv' := [(0, .ref (E.2.2 5)), (1, iv a1), (2, iv a2), (3, iv a3)]) [0, 1, 2, 3] rfl (b_f_J1_indexOfChar_4cfef X h)
theorem yy_J1_indexOfChar_4cfef : cY yJ1_indexOfChar_4cfef cJ1_indexOfChar_4cfef 6 (some .int) 4 := ⟨wdK_J1_indexOfChar_4cfef, wdZ_RJ1, by decide +kernel⟩
theorem dJ1_indexOf_4cfef_0 : decode cJ1_indexOf_4cfef 0 = .ok (.iload_n 1, 1) := by decide +kernel
theorem dJ1_indexOf_4cfef_1 : decode cJ1_indexOf_4cfef 1 = .ok (.invokestatic 88, 3) := by decide +kernel
theorem dJ1_indexOf_4cfef_4 : decode cJ1_indexOf_4cfef 4 = .ok (.ifCond .ne 5, 3) := by decide +kernel
theorem dJ1_indexOf_4cfef_7 : decode cJ1_indexOf_4cfef 7 = .ok (.iconst (-1), 1) := by decide +kernel
theorem dJ1_indexOf_4cfef_8 : decode cJ1_indexOf_4cfef 8 = .ok (.ireturn, 1) := by decide +kernel
theorem dJ1_indexOf_4cfef_9 : decode cJ1_indexOf_4cfef 9 = .ok (.iload_n 2, 1) := by decide +kernel
theorem dJ1_indexOf_4cfef_10 : decode cJ1_indexOf_4cfef 10 = .ok (.iconst 0, 1) := by decide +kernel
theorem dJ1_indexOf_4cfef_11 : decode cJ1_indexOf_4cfef 11 = .ok (.invokestatic 92, 3) := by decide +kernel
theorem dJ1_indexOf_4cfef_14 : decode cJ1_indexOf_4cfef 14 = .ok (.istore_n 2, 1) := by decide +kernel
theorem dJ1_indexOf_4cfef_15 : decode cJ1_indexOf_4cfef 15 = .ok (.iload_n 3, 1) := by decide +kernel
theorem dJ1_indexOf_4cfef_16 : decode cJ1_indexOf_4cfef 16 = .ok (.aload_n 0, 1) := by decide +kernel
theorem dJ1_indexOf_4cfef_17 : decode cJ1_indexOf_4cfef 17 = .ok (.arraylength, 1) := by decide +kernel
theorem dJ1_indexOf_4cfef_18 : decode cJ1_indexOf_4cfef 18 = .ok (.invokestatic 38, 3) := by decide +kernel
theorem dJ1_indexOf_4cfef_21 : decode cJ1_indexOf_4cfef 21 = .ok (.istore_n 3, 1) := by decide +kernel
theorem dJ1_indexOf_4cfef_22 : decode cJ1_indexOf_4cfef 22 = .ok (.iload_n 2, 1) := by decide +kernel
theorem dJ1_indexOf_4cfef_23 : decode cJ1_indexOf_4cfef 23 = .ok (.iload_n 3, 1) := by decide +kernel
theorem dJ1_indexOf_4cfef_24 : decode cJ1_indexOf_4cfef 24 = .ok (.if_icmp .lt 5, 3) := by decide +kernel
theorem dJ1_indexOf_4cfef_27 : decode cJ1_indexOf_4cfef 27 = .ok (.iconst (-1), 1) := by decide +kernel
theorem dJ1_indexOf_4cfef_28 : decode cJ1_indexOf_4cfef 28 = .ok (.ireturn, 1) := by decide +kernel
theorem dJ1_indexOf_4cfef_29 : decode cJ1_indexOf_4cfef 29 = .ok (.aload_n 0, 1) := by decide +kernel
theorem dJ1_indexOf_4cfef_30 : decode cJ1_indexOf_4cfef 30 = .ok (.iload_n 1, 1) := by decide +kernel
theorem dJ1_indexOf_4cfef_31 : decode cJ1_indexOf_4cfef 31 = .ok (.iload_n 2, 1) := by decide +kernel
theorem dJ1_indexOf_4cfef_32 : decode cJ1_indexOf_4cfef 32 = .ok (.iload_n 3, 1) := by decide +kernel
theorem dJ1_indexOf_4cfef_33 : decode cJ1_indexOf_4cfef 33 = .ok (.invokestatic 95, 3) := by decide +kernel
theorem dJ1_indexOf_4cfef_36 : decode cJ1_indexOf_4cfef 36 = .ok (.ireturn, 1) := by decide +kernel
abbrev rm_f_J1_indexOf_4cfef : Room := { frames := 1, cells := 0, slots := 0, locals := 25 }
def f_J1_indexOf_4cfef (N : Nat) (a1 : Int) (a2 : Int) (a3 : Int) (t : St) : Option (Int × St) :=
    bdI (f_J1_canEncode_9a6ad N a1 t) fun v2 t1 =>
    cmpI v2 0 (if v2 = 0 then (some ((-1), t1))
    else (cmpI a2 0 (
    cmpI a3 8 (
    cmpI (max a2 0) (min a3 8) (if (max a2 0) < (min a3 8) then (bdI (f_J1_indexOfChar_4cfef N a1 (max a2 0) (min a3 8) t1) fun v4 t3 =>
    some (v4, t3))
    else (some ((-1), t1)))))))
set_option maxHeartbeats 4000000 in
set_option maxRecDepth 100000 in
theorem b_f_J1_indexOf_4cfef {p : Program} {l : Launch} {e : Env} {s : State} {m : MethodId} {args : Array Value} {below : List Frame} {meth : Method} {c : Code} {E : cE} {A : Nat → Prop} {r : Nat → Nat} {mc ms : Nat} {z : Int × St} {N : Nat} {a1 : Int} {a2 : Int} {a3 : Int} {t : St} (X : gX p s m meth c cJ1_indexOf_4cfef 4 (some .int) yJ1_indexOf_4cfef args E A) (h : f_J1_indexOf_4cfef N a1 a2 a3 t = some z) : gP p l e rm_f_J1_indexOf_4cfef s m args below meth c E A 4 (MQ below ((gqI E (gW E r shH) z) A) args s mc ms A) (gW E r shH) 0 [(0, .ref (E.2.2 5)), (1, iv a1), (2, iv a2), (3, iv a3)] [] t := by
  unfold f_J1_indexOf_4cfef at h
  refine g_iload_n X dJ1_indexOf_4cfef_0 1 rfl ?_
  refine g_callsI (rest := []) X (fun u9 h9 => cp_J1_canEncode_9a6ad l E r N a1 t u9 h9) yy_J1_canEncode_9a6ad wdT_J1_canEncode_9a6ad wdM_RJ1_88 rfl rfl (Nat.le_of_ble_eq_true rfl) dJ1_indexOf_4cfef_1 ⟨by decide, by decide⟩ ⟨rfl, rfl⟩ h (fun v2 t1 h => ?_)
  refine g_if_ne (tgt := 9) X dJ1_indexOf_4cfef_4 (by decide) h (fun h => ?_) (fun h => ?_)
  · refine g_iload_n X dJ1_indexOf_4cfef_9 2 rfl ?_
    refine g_iconst X dJ1_indexOf_4cfef_10 ?_
    refine g_mmax X wdM_RJ1_92 (by decide) (Nat.le_of_ble_eq_true rfl) dJ1_indexOf_4cfef_11 h (fun h => ?_)
    refine g_istore_n (lv' := [(2, iv (max a2 0)), (0, .ref (E.2.2 5)), (1, iv a1), (3, iv a3)]) X dJ1_indexOf_4cfef_14 rfl (by decide) rfl ?_
    refine g_iload_n X dJ1_indexOf_4cfef_15 3 rfl ?_
    refine g_aload_n X dJ1_indexOf_4cfef_16 1 rfl ?_
    refine g_alenS X dJ1_indexOf_4cfef_17 ?_
    refine g_mmin X wdM_RJ1_38 (by decide) (Nat.le_of_ble_eq_true rfl) dJ1_indexOf_4cfef_18 h (fun h => ?_)
    refine g_istore_n (lv' := [(3, iv (min a3 8)), (2, iv (max a2 0)), (0, .ref (E.2.2 5)), (1, iv a1)]) X dJ1_indexOf_4cfef_21 rfl (by decide) rfl ?_
    refine g_iload_n X dJ1_indexOf_4cfef_22 1 rfl ?_
    refine g_iload_n X dJ1_indexOf_4cfef_23 0 rfl ?_
    refine g_icmp_lt (tgt := 29) X dJ1_indexOf_4cfef_24 (by decide) h (fun h => ?_) (fun h => ?_)
    · refine g_aload_n X dJ1_indexOf_4cfef_29 2 rfl ?_
      refine g_iload_n X dJ1_indexOf_4cfef_30 3 rfl ?_
      refine g_iload_n X dJ1_indexOf_4cfef_31 1 rfl ?_
      refine g_iload_n X dJ1_indexOf_4cfef_32 0 rfl ?_
      refine g_callsI (rest := []) X (fun u9 h9 => cp_J1_indexOfChar_4cfef l E r N a1 (max a2 0) (min a3 8) t1 u9 h9) yy_J1_indexOfChar_4cfef wdT_J1_indexOfChar_4cfef wdM_RJ1_95 rfl rfl (Nat.le_of_ble_eq_true rfl) dJ1_indexOf_4cfef_33 ⟨by decide, by decide⟩ ⟨rfl, rfl⟩ h (fun v4 t3 h => ?_)
      exact g_iret X h dJ1_indexOf_4cfef_36
    · refine g_iconst X dJ1_indexOf_4cfef_27 ?_
      exact g_iret X h dJ1_indexOf_4cfef_28
  · refine g_iconst X dJ1_indexOf_4cfef_7 ?_
    exact g_iret X h dJ1_indexOf_4cfef_8
set_option maxHeartbeats 4000000 in
set_option maxRecDepth 100000 in
theorem cp_J1_indexOf_4cfef (l : Launch) (E : cE) (r : Nat → Nat) (N : Nat) (a1 : Int) (a2 : Int) (a3 : Int) (t : St) (z : Int × St) (h : f_J1_indexOf_4cfef N a1 a2 a3 t = some z) : cM l E yJ1_indexOf_4cfef cJ1_indexOf_4cfef 4 (some .int) rm_f_J1_indexOf_4cfef [.ref (E.2.2 5), iv a1, iv a2, iv a3] (gW E r shH t) (gqI E (gW E r shH) z) := by
  refine g_of (w := gW E r shH) (by decide) (Nat.le_of_ble_eq_true rfl) ?_
  intro p e s m below meth c A X
  exact g_sub (lv' := [(0, .ref (E.2.2 5)), (1, iv a1), (2, iv a2), (3, iv a3)]) [0, 1, 2, 3] rfl (b_f_J1_indexOf_4cfef X h)
theorem yy_J1_indexOf_4cfef : cY yJ1_indexOf_4cfef cJ1_indexOf_4cfef 4 (some .int) 4 := ⟨wdK_J1_indexOf_4cfef, wdZ_RJ1, by decide +kernel⟩
theorem dJ0_indexOf_7cf53_0 : decode cJ0_indexOf_7cf53 0 = .ok (.aload_n 0, 1) := by decide +kernel
theorem dJ0_indexOf_7cf53_1 : decode cJ0_indexOf_7cf53 1 = .ok (.invokevirtual 492, 3) := by decide +kernel
theorem dJ0_indexOf_7cf53_4 : decode cJ0_indexOf_7cf53 4 = .ok (.ifCond .eq 19, 3) := by decide +kernel
theorem dJ0_indexOf_7cf53_7 : decode cJ0_indexOf_7cf53 7 = .ok (.aload_n 0, 1) := by decide +kernel
theorem dJ0_indexOf_7cf53_8 : decode cJ0_indexOf_7cf53 8 = .ok (.getfield 9, 3) := by decide +kernel
theorem dJ0_indexOf_7cf53_11 : decode cJ0_indexOf_7cf53 11 = .ok (.iload_n 1, 1) := by decide +kernel
theorem dJ0_indexOf_7cf53_12 : decode cJ0_indexOf_7cf53 12 = .ok (.iload_n 2, 1) := by decide +kernel
theorem dJ0_indexOf_7cf53_13 : decode cJ0_indexOf_7cf53 13 = .ok (.aload_n 0, 1) := by decide +kernel
theorem dJ0_indexOf_7cf53_14 : decode cJ0_indexOf_7cf53 14 = .ok (.invokevirtual 505, 3) := by decide +kernel
theorem dJ0_indexOf_7cf53_17 : decode cJ0_indexOf_7cf53 17 = .ok (.invokestatic 637, 3) := by decide +kernel
theorem dJ0_indexOf_7cf53_20 : decode cJ0_indexOf_7cf53 20 = .ok (.goto 16, 3) := by decide +kernel
theorem dJ0_indexOf_7cf53_23 : decode cJ0_indexOf_7cf53 23 = .ok (.aload_n 0, 1) := by decide +kernel
theorem dJ0_indexOf_7cf53_24 : decode cJ0_indexOf_7cf53 24 = .ok (.getfield 9, 3) := by decide +kernel
theorem dJ0_indexOf_7cf53_27 : decode cJ0_indexOf_7cf53 27 = .ok (.iload_n 1, 1) := by decide +kernel
theorem dJ0_indexOf_7cf53_28 : decode cJ0_indexOf_7cf53 28 = .ok (.iload_n 2, 1) := by decide +kernel
theorem dJ0_indexOf_7cf53_29 : decode cJ0_indexOf_7cf53 29 = .ok (.aload_n 0, 1) := by decide +kernel
theorem dJ0_indexOf_7cf53_30 : decode cJ0_indexOf_7cf53 30 = .ok (.invokevirtual 505, 3) := by decide +kernel
theorem dJ0_indexOf_7cf53_33 : decode cJ0_indexOf_7cf53 33 = .ok (.invokestatic 640, 3) := by decide +kernel
theorem dJ0_indexOf_7cf53_36 : decode cJ0_indexOf_7cf53 36 = .ok (.ireturn, 1) := by decide +kernel
abbrev rm_f_J0_indexOf_7cf53 : Room := { frames := 2, cells := 0, slots := 0, locals := 48 }
def f_J0_indexOf_7cf53 (N : Nat) (a0 : Int) (a1 : Int) (t : St) : Option (Int × St) :=
    bdI (f_J0_isLatin1_aae02 N t) fun v2 t1 =>
    cmpI v2 0 (if v2 = 0 then (bdI (f_J0_length_8abf5 N t1) fun v4 t3 =>
    none)
    else (bdI (f_J0_length_8abf5 N t1) fun v6 t5 =>
    bdI (f_J1_indexOf_4cfef N a0 a1 v6 t5) fun v8 t7 =>
    some (v8, t7)))
set_option maxHeartbeats 4000000 in
set_option maxRecDepth 100000 in
theorem b_f_J0_indexOf_7cf53 {p : Program} {l : Launch} {e : Env} {s : State} {m : MethodId} {args : Array Value} {below : List Frame} {meth : Method} {c : Code} {E : cE} {A : Nat → Prop} {r : Nat → Nat} {mc ms : Nat} {z : Int × St} {N : Nat} {a0 : Int} {a1 : Int} {t : St} (X : gX p s m meth c cJ0_indexOf_7cf53 3 (some .int) yJ0_indexOf_7cf53 args E A) (h : f_J0_indexOf_7cf53 N a0 a1 t = some z) : gP p l e rm_f_J0_indexOf_7cf53 s m args below meth c E A 3 (MQ below ((gqI E (gW E r shH) z) A) args s mc ms A) (gW E r shH) 0 [(0, .ref (E.2.2 4)), (1, iv a0), (2, iv a1)] [] t := by
  unfold f_J0_indexOf_7cf53 at h
  refine g_aload_n X dJ0_indexOf_7cf53_0 0 rfl ?_
  refine g_callTI (rest := []) X (fun u9 h9 => cp_J0_isLatin1_aae02 l E r N t u9 h9) yy_J0_isLatin1_aae02 yi_J0_isLatin1_aae02 wdM_RJ0_492 (gZs X).2.2.1.1 rfl rfl (Nat.le_of_ble_eq_true rfl) dJ0_indexOf_7cf53_1 ⟨by decide, by decide⟩ ⟨rfl, rfl⟩ h (fun v2 t1 h => ?_)
  refine g_if_eq (tgt := 23) X dJ0_indexOf_7cf53_4 (by decide) h (fun h => ?_) (fun h => ?_)
  · refine g_aload_n X dJ0_indexOf_7cf53_23 0 rfl ?_
    refine g_getSV X rfl wdF_RJ0_9 dJ0_indexOf_7cf53_24 ?_
    refine g_iload_n X dJ0_indexOf_7cf53_27 1 rfl ?_
    refine g_iload_n X dJ0_indexOf_7cf53_28 2 rfl ?_
    refine g_aload_n X dJ0_indexOf_7cf53_29 0 rfl ?_
    refine g_callTI (rest := [iv a1, iv a0, .ref (E.2.2 5)]) X (fun u9 h9 => cp_J0_length_8abf5 l E r N t1 u9 h9) yy_J0_length_8abf5 yi_J0_length_8abf5 wdM_RJ0_505 (gZs X).2.2.1.1 rfl rfl (Nat.le_of_ble_eq_true rfl) dJ0_indexOf_7cf53_30 ⟨by decide, by decide⟩ ⟨rfl, rfl⟩ h (fun v4 t3 h => ?_)
    cases h
  · refine g_aload_n X dJ0_indexOf_7cf53_7 0 rfl ?_
    refine g_getSV X rfl wdF_RJ0_9 dJ0_indexOf_7cf53_8 ?_
    refine g_iload_n X dJ0_indexOf_7cf53_11 1 rfl ?_
    refine g_iload_n X dJ0_indexOf_7cf53_12 2 rfl ?_
    refine g_aload_n X dJ0_indexOf_7cf53_13 0 rfl ?_
    refine g_callTI (rest := [iv a1, iv a0, .ref (E.2.2 5)]) X (fun u9 h9 => cp_J0_length_8abf5 l E r N t1 u9 h9) yy_J0_length_8abf5 yi_J0_length_8abf5 wdM_RJ0_505 (gZs X).2.2.1.1 rfl rfl (Nat.le_of_ble_eq_true rfl) dJ0_indexOf_7cf53_14 ⟨by decide, by decide⟩ ⟨rfl, rfl⟩ h (fun v6 t5 h => ?_)
    refine g_callsI (rest := []) X (fun u9 h9 => cp_J1_indexOf_4cfef l E r N a0 a1 v6 t5 u9 h9) yy_J1_indexOf_4cfef wdT_J1_indexOf_4cfef wdM_RJ0_637 rfl rfl (Nat.le_of_ble_eq_true rfl) dJ0_indexOf_7cf53_17 ⟨by decide, by decide⟩ ⟨rfl, rfl⟩ h (fun v8 t7 h => ?_)
    refine g_goto (tgt := 36) X dJ0_indexOf_7cf53_20 (by decide) ?_
    exact g_iret X h dJ0_indexOf_7cf53_36
set_option maxHeartbeats 4000000 in
set_option maxRecDepth 100000 in
theorem cp_J0_indexOf_7cf53 (l : Launch) (E : cE) (r : Nat → Nat) (N : Nat) (a0 : Int) (a1 : Int) (t : St) (z : Int × St) (h : f_J0_indexOf_7cf53 N a0 a1 t = some z) : cM l E yJ0_indexOf_7cf53 cJ0_indexOf_7cf53 3 (some .int) rm_f_J0_indexOf_7cf53 [.ref (E.2.2 4), iv a0, iv a1] (gW E r shH t) (gqI E (gW E r shH) z) := by
  refine g_of (w := gW E r shH) (by decide) (Nat.le_of_ble_eq_true rfl) ?_
  intro p e s m below meth c A X
  exact g_sub (lv' := [(0, .ref (E.2.2 4)), (1, iv a0), (2, iv a1)]) [0, 1, 2] rfl (b_f_J0_indexOf_7cf53 X h)
theorem yy_J0_indexOf_7cf53 : cY yJ0_indexOf_7cf53 cJ0_indexOf_7cf53 3 (some .int) 2 := ⟨wdK_J0_indexOf_7cf53, wdZ_RJ0, by decide +kernel⟩
theorem yi_J0_indexOf_7cf53 : cYi yJ0_indexOf_7cf53 := ⟨wdN_J0_indexOf_7cf53, wdS_J0_indexOf_7cf53⟩
theorem dJ0_indexOf_0f7a4_0 : decode cJ0_indexOf_0f7a4 0 = .ok (.aload_n 0, 1) := by decide +kernel
theorem dJ0_indexOf_0f7a4_1 : decode cJ0_indexOf_0f7a4 1 = .ok (.iload_n 1, 1) := by decide +kernel
theorem dJ0_indexOf_0f7a4_2 : decode cJ0_indexOf_0f7a4 2 = .ok (.iconst 0, 1) := by decide +kernel
theorem dJ0_indexOf_0f7a4_3 : decode cJ0_indexOf_0f7a4 3 = .ok (.invokevirtual 633, 3) := by decide +kernel
theorem dJ0_indexOf_0f7a4_6 : decode cJ0_indexOf_0f7a4 6 = .ok (.ireturn, 1) := by decide +kernel
abbrev rm_f_J0_indexOf_0f7a4 : Room := { frames := 3, cells := 0, slots := 0, locals := 70 }
def f_J0_indexOf_0f7a4 (N : Nat) (a0 : Int) (t : St) : Option (Int × St) :=
    bdI (f_J0_indexOf_7cf53 N a0 0 t) fun v2 t1 =>
    some (v2, t1)
set_option maxHeartbeats 4000000 in
set_option maxRecDepth 100000 in
theorem b_f_J0_indexOf_0f7a4 {p : Program} {l : Launch} {e : Env} {s : State} {m : MethodId} {args : Array Value} {below : List Frame} {meth : Method} {c : Code} {E : cE} {A : Nat → Prop} {r : Nat → Nat} {mc ms : Nat} {z : Int × St} {N : Nat} {a0 : Int} {t : St} (X : gX p s m meth c cJ0_indexOf_0f7a4 2 (some .int) yJ0_indexOf_0f7a4 args E A) (h : f_J0_indexOf_0f7a4 N a0 t = some z) : gP p l e rm_f_J0_indexOf_0f7a4 s m args below meth c E A 2 (MQ below ((gqI E (gW E r shH) z) A) args s mc ms A) (gW E r shH) 0 [(0, .ref (E.2.2 4)), (1, iv a0)] [] t := by
  unfold f_J0_indexOf_0f7a4 at h
  refine g_aload_n X dJ0_indexOf_0f7a4_0 0 rfl ?_
  refine g_iload_n X dJ0_indexOf_0f7a4_1 1 rfl ?_
  refine g_iconst X dJ0_indexOf_0f7a4_2 ?_
  refine g_callTI (rest := []) X (fun u9 h9 => cp_J0_indexOf_7cf53 l E r N a0 0 t u9 h9) yy_J0_indexOf_7cf53 yi_J0_indexOf_7cf53 wdM_RJ0_633 (gZs X).2.2.1.1 rfl rfl (Nat.le_of_ble_eq_true rfl) dJ0_indexOf_0f7a4_3 ⟨by decide, by decide⟩ ⟨rfl, rfl⟩ h (fun v2 t1 h => ?_)
  exact g_iret X h dJ0_indexOf_0f7a4_6
set_option maxHeartbeats 4000000 in
set_option maxRecDepth 100000 in
theorem cp_J0_indexOf_0f7a4 (l : Launch) (E : cE) (r : Nat → Nat) (N : Nat) (a0 : Int) (t : St) (z : Int × St) (h : f_J0_indexOf_0f7a4 N a0 t = some z) : cM l E yJ0_indexOf_0f7a4 cJ0_indexOf_0f7a4 2 (some .int) rm_f_J0_indexOf_0f7a4 [.ref (E.2.2 4), iv a0] (gW E r shH t) (gqI E (gW E r shH) z) := by
  refine g_of (w := gW E r shH) (by decide) (Nat.le_of_ble_eq_true rfl) ?_
  intro p e s m below meth c A X
  exact g_sub (lv' := [(0, .ref (E.2.2 4)), (1, iv a0)]) [0, 1] rfl (b_f_J0_indexOf_0f7a4 X h)
theorem yy_J0_indexOf_0f7a4 : cY yJ0_indexOf_0f7a4 cJ0_indexOf_0f7a4 2 (some .int) 1 := ⟨wdK_J0_indexOf_0f7a4, wdZ_RJ0, by decide +kernel⟩
theorem yi_J0_indexOf_0f7a4 : cYi yJ0_indexOf_0f7a4 := ⟨wdN_J0_indexOf_0f7a4, wdS_J0_indexOf_0f7a4⟩
