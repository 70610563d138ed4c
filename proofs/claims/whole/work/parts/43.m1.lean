abbrev rm_f_X12_in : Room := { frames := 0, cells := 0, slots := 0, locals := 0 }
def f_X12_in (N : Nat) (a0 : Int) (a1 : Int) (a2 : Int) (t : St) : Option (Int × St) :=
    cmpI a0 a1 (if a0 < a1 then (boI 0 (some (0, t)))
    else (cmpI a0 a2 (if a2 < a0 then (boI 0 (some (0, t)))
    else (boI 1 (some (1, t))))))
set_option maxHeartbeats 4000000 in
set_option maxRecDepth 100000 in
theorem b_f_X12_in {p : Program} {l : Launch} {e : Env} {s : State} {m : MethodId} {args : Array Value} {below : List Frame} {meth : Method} {c : Code} {E : cE} {A : Nat → Prop} {r : Nat → Nat} {mc ms : Nat} {z : Int × St} {N : Nat} {a0 : Int} {a1 : Int} {a2 : Int} {t : St} (X : gX p s m meth c cX12_in 3 (some .boolean) yX12_in args E A) (h : f_X12_in N a0 a1 a2 t = some z) : gP p l e rm_f_X12_in s m args below meth c E A 3 (MQ below ((gqI E (gW E r shM) z) A) args s mc ms A) (gW E r shM) 0 [(0, iv a0), (1, iv a1), (2, iv a2)] [] t := by
  unfold f_X12_in at h
  refine g_iload_n X dX12_in_0 0 rfl ?_
  refine g_iload_n X dX12_in_1 1 rfl ?_
  refine g_icmp_lt (tgt := 14) X dX12_in_2 (by decide) h (fun h => ?_) (fun h => ?_)
  · refine g_iconst X dX12_in_14 ?_
    exact g_zret X h dX12_in_15
  · refine g_iload_n X dX12_in_5 0 rfl ?_
    refine g_iload_n X dX12_in_6 2 rfl ?_
    refine g_icmp_gt (tgt := 14) X dX12_in_7 (by decide) h (fun h => ?_) (fun h => ?_)
    · refine g_iconst X dX12_in_14 ?_
      exact g_zret X h dX12_in_15
    · refine g_iconst X dX12_in_10 ?_
      refine g_goto (tgt := 15) X dX12_in_11 (by decide) ?_
      exact g_zret X h dX12_in_15
set_option maxHeartbeats 4000000 in
set_option maxRecDepth 100000 in
theorem cp_X12_in (l : Launch) (E : cE) (r : Nat → Nat) (N : Nat) (a0 : Int) (a1 : Int) (a2 : Int) (t : St) (z : Int × St) (h : f_X12_in N a0 a1 a2 t = some z) : cM l E yX12_in cX12_in 3 (some .boolean) rm_f_X12_in [iv a0, iv a1, iv a2] (gW E r shM t) (gqI E (gW E r shM) z) := by
  refine g_of (w := gW E r shM) (by decide) (Nat.le_of_ble_eq_true rfl) ?_
  intro p e s m below meth c A X
  exact g_sub (lv' := [(0, iv a0), (1, iv a1), (2, iv a2)]) [0, 1, 2] rfl (b_f_X12_in X h)
theorem dX12_turns_0 : decode cX12_turns 0 = .ok (.iload_n 0, 1) := by decide +kernel
theorem dX12_turns_1 : decode cX12_turns 1 = .ok (.iconst 3, 1) := by decide +kernel
theorem dX12_turns_2 : decode cX12_turns 2 = .ok (.iand, 1) := by decide +kernel
theorem dX12_turns_3 : decode cX12_turns 3 = .ok (.ireturn, 1) := by decide +kernel
abbrev rm_f_X12_turns : Room := { frames := 0, cells := 0, slots := 0, locals := 0 }
def f_X12_turns (N : Nat) (a0 : Int) (t : St) : Option (Int × St) :=
    some (a0 % 4, t)
set_option maxHeartbeats 4000000 in
set_option maxRecDepth 100000 in
theorem b_f_X12_turns {p : Program} {l : Launch} {e : Env} {s : State} {m : MethodId} {args : Array Value} {below : List Frame} {meth : Method} {c : Code} {E : cE} {A : Nat → Prop} {r : Nat → Nat} {mc ms : Nat} {z : Int × St} {N : Nat} {a0 : Int} {t : St} (X : gX p s m meth c cX12_turns 1 (some .int) yX12_turns args E A) (h : f_X12_turns N a0 t = some z) : gP p l e rm_f_X12_turns s m args below meth c E A 1 (MQ below ((gqI E (gW E r shM) z) A) args s mc ms A) (gW E r shM) 0 [(0, iv a0)] [] t := by
  unfold f_X12_turns at h
  refine g_iload_n X dX12_turns_0 0 rfl ?_
  refine g_iconst X dX12_turns_1 ?_
  refine g_mask X 2 (by decide) (M := 4) (by decide) (by decide) dX12_turns_2 ?_
  exact g_iret X h dX12_turns_3
set_option maxHeartbeats 4000000 in
set_option maxRecDepth 100000 in
theorem cp_X12_turns (l : Launch) (E : cE) (r : Nat → Nat) (N : Nat) (a0 : Int) (t : St) (z : Int × St) (h : f_X12_turns N a0 t = some z) : cM l E yX12_turns cX12_turns 1 (some .int) rm_f_X12_turns [iv a0] (gW E r shM t) (gqI E (gW E r shM) z) := by
  refine g_of (w := gW E r shM) (by decide) (Nat.le_of_ble_eq_true rfl) ?_
  intro p e s m below meth c A X
  exact g_sub (lv' := [(0, iv a0)]) [0] rfl (b_f_X12_turns X h)
theorem yy_X12_turns : cY yX12_turns cX12_turns 1 (some .int) 1 := ⟨wdK_X12_turns, wdZ_RX12, by decide +kernel⟩
abbrev rm_f_X12_stands : Room := { frames := 0, cells := 0, slots := 0, locals := 0 }
def f_X12_stands (N : Nat) (a0 : Int) (a1 : Int) (a2 : Int) (a3 : Int) (t : St) : Option (St) :=
    ixI a0 64 (lt1 (pI t 38 a0.toNat a1) fun t1 =>
    ixI a0 64 (lt1 (pI t1 39 a0.toNat a2) fun t2 =>
    ixI a0 64 (lt1 (pI t2 40 a0.toNat a3) fun t3 =>
    ixI a0 64 (lt1 (pI t3 41 a0.toNat 0) fun t4 =>
    some t4))))
set_option maxHeartbeats 4000000 in
set_option maxRecDepth 100000 in
theorem b_f_X12_stands {p : Program} {l : Launch} {e : Env} {s : State} {m : MethodId} {args : Array Value} {below : List Frame} {meth : Method} {c : Code} {E : cE} {A : Nat → Prop} {r : Nat → Nat} {mc ms : Nat} {z : St} {N : Nat} {a0 : Int} {a1 : Int} {a2 : Int} {a3 : Int} {t : St} (X : gX p s m meth c cX12_stands 5 none yX12_stands args E A) (h : f_X12_stands N a0 a1 a2 a3 t = some z) : gP p l e rm_f_X12_stands s m args below meth c E A 5 (MQ below ((gqV E (gW E r shM) z) A) args s mc ms A) (gW E r shM) 0 [(0, .ref (r 200)), (1, iv a0), (2, iv a1), (3, iv a2), (4, iv a3)] [] t := by
  unfold f_X12_stands at h
  refine g_aload_n X dX12_stands_0 0 rfl ?_
  refine g_getR X fM_38 rfl dX12_stands_1 ?_
  refine g_iload_n X dX12_stands_4 1 rfl ?_
  refine g_iload_n X dX12_stands_5 2 rfl ?_
  refine g_iast X aM_38 dX12_stands_6 h (fun t1 h => ?_)
  refine g_aload_n X dX12_stands_7 0 rfl ?_
  refine g_getR X fM_39 rfl dX12_stands_8 ?_
  refine g_iload_n X dX12_stands_11 1 rfl ?_
  refine g_iload_n X dX12_stands_12 3 rfl ?_
  refine g_iast X aM_39 dX12_stands_13 h (fun t2 h => ?_)
  refine g_aload_n X dX12_stands_14 0 rfl ?_
  refine g_getR X fM_40 rfl dX12_stands_15 ?_
  refine g_iload_n X dX12_stands_18 1 rfl ?_
  refine g_iload X dX12_stands_19 4 rfl ?_
  refine g_iast X aM_40 dX12_stands_21 h (fun t3 h => ?_)
  refine g_aload_n X dX12_stands_22 0 rfl ?_
  refine g_getR X fM_41 rfl dX12_stands_23 ?_
  refine g_iload_n X dX12_stands_26 1 rfl ?_
  refine g_iconst X dX12_stands_27 ?_
  refine g_iast X aM_41 dX12_stands_28 h (fun t4 h => ?_)
  exact g_vret X h dX12_stands_29
set_option maxHeartbeats 4000000 in
set_option maxRecDepth 100000 in
theorem cp_X12_stands (l : Launch) (E : cE) (r : Nat → Nat) (N : Nat) (a0 : Int) (a1 : Int) (a2 : Int) (a3 : Int) (t : St) (z : St) (h : f_X12_stands N a0 a1 a2 a3 t = some z) : cM l E yX12_stands cX12_stands 5 none rm_f_X12_stands [.ref (r 200), iv a0, iv a1, iv a2, iv a3] (gW E r shM t) (gqV E (gW E r shM) z) := by
  refine g_of (w := gW E r shM) (by decide) (Nat.le_of_ble_eq_true rfl) ?_
  intro p e s m below meth c A X
  exact g_sub (lv' := [(0, .ref (r 200)), (1, iv a0), (2, iv a1), (3, iv a2), (4, iv a3)]) [0, 1, 2, 3, 4] rfl (b_f_X12_stands X h)
abbrev rm_f_X12_begins : Room := { frames := 1, cells := 0, slots := 0, locals := 24 }
def f_X12_begins_L120 (N : Nat) (K10 : (St → Option (Int × St))) (y6 : Int) (y7 : Int) : Nat → Int → St → Option (Int × St)
  | 0, _, _ => none
  | n9 + 1, x8, t9 =>
    cmpI x8 y7 (if x8 < y7 then (cmpI y6 0 (if 0 < y6 then (dvI x8 2 (
    jn1 (fun (j11 : Int) (t12 : St) => dvI x8 2 (
    jn1 (fun (t14 : St) => f_X12_begins_L120 N K10 y6 y7 n9 (x8 + 1) t14) fun J15 =>
    cmpI y6 1 (if y6 = 1 then (bdV (f_X12_stands N (2 * x8) 0 (4 * x8) 1 t12) fun t50 =>
    bdV (f_X12_stands N ((2 * x8) + 1) 4 (4 * x8) 3 t50) fun t51 =>
    J15 t51)
    else (cmpI y6 2 (if y6 = 2 then (jn1 (fun (j36 : Int) (t37 : St) => jn1 (fun (j39 : Int) (t40 : St) => bdV (f_X12_stands N (2 * x8) j36 (4 * x8) j39 t40) fun t42 =>
    jn1 (fun (j43 : Int) (t44 : St) => jn1 (fun (j46 : Int) (t47 : St) => bdV (f_X12_stands N ((2 * x8) + 1) j43 (4 * x8) j46 t47) fun t49 =>
    J15 t49) fun J48 =>
    cmpI j11 0 (if j11 = 0 then (J48 2 t44)
    else (J48 0 t44))) fun J45 =>
    cmpI j11 0 (if j11 = 0 then (J45 0 t42)
    else (J45 4 t42))) fun J41 =>
    cmpI j11 0 (if j11 = 0 then (J41 2 t37)
    else (J41 0 t37))) fun J38 =>
    cmpI j11 0 (if j11 = 0 then (J38 4 t12)
    else (J38 0 t12)))
    else (jn1 (fun (j16 : Int) (t17 : St) => jn1 (fun (j19 : Int) (t20 : St) => jn1 (fun (j22 : Int) (t23 : St) => bdV (f_X12_stands N (2 * x8) j16 j19 j22 t23) fun t25 =>
    jn1 (fun (j26 : Int) (t27 : St) => jn1 (fun (j29 : Int) (t30 : St) => jn1 (fun (j32 : Int) (t33 : St) => bdV (f_X12_stands N ((2 * x8) + 1) j26 j29 j32 t33) fun t35 =>
    J15 t35) fun J34 =>
    cmpI j11 0 (if j11 = 0 then (J34 3 t30)
    else (J34 1 t30))) fun J31 =>
    cmpI j11 0 (if j11 = 0 then (J31 ((8 * (x8 / 2)) + 4) t27)
    else (J31 (8 * (x8 / 2)) t27))) fun J28 =>
    cmpI j11 0 (if j11 = 0 then (J28 4 t25)
    else (J28 0 t25))) fun J24 =>
    cmpI j11 0 (if j11 = 0 then (J24 3 t20)
    else (J24 1 t20))) fun J21 =>
    cmpI j11 0 (if j11 = 0 then (J21 (8 * (x8 / 2)) t17)
    else (J21 ((8 * (x8 / 2)) + 4) t17))) fun J18 =>
    cmpI j11 0 (if j11 = 0 then (J18 4 t12)
    else (J18 0 t12)))))))) fun J13 =>
    cmpI (x8 % 2) 0 (if (x8 % 2) = 0 then (J13 1 t9)
    else (J13 0 t9))))
    else (K10 t9)))
    else (K10 t9))
def f_X12_begins_L345 (K55 : (St → Option (Int × St))) : Nat → Int → St → Option (Int × St)
  | 0, _, _ => none
  | n9 + 1, x53, t54 =>
    lt1 (t54.1 200 37) fun v56 =>
    cmpI x53 v56 (if x53 < v56 then (ixI x53 64 (lt1 (t54.1 38 x53.toNat) fun v57 =>
    ixI x53 64 (lt1 (pI t54 44 x53.toNat v57) fun t58 =>
    ixI x53 64 (lt1 (t58.1 39 x53.toNat) fun v59 =>
    ixI x53 64 (lt1 (pI t58 45 x53.toNat v59) fun t60 =>
    ixI x53 64 (lt1 (t60.1 40 x53.toNat) fun v61 =>
    ixI x53 64 (lt1 (pI t60 46 x53.toNat v61) fun t62 =>
    f_X12_begins_L345 K55 n9 (x53 + 1) t62)))))))
    else (K55 t54))
def f_X12_begins (N : Nat) (a0 : Int) (a1 : Int) (t : St) : Option (Int × St) :=
    jn1 (fun (t1 : St) => lt1 (pI t1 200 37 (2 * a1)) fun t3 =>
    jn1 (fun (t4 : St) => f_X12_begins_L120 N (fun (t52 : St) => f_X12_begins_L345 (fun (t63 : St) => boI 1 (some (1, t63))) N 0 t52) a0 a1 N 0 t4) fun J5 =>
    cmpI a0 0 (if a0 = 0 then (bdV (f_X12_stands N 0 4 0 0 t3) fun t64 =>
    bdV (f_X12_stands N 1 8 0 0 t64) fun t65 =>
    bdV (f_X12_stands N 2 12 4 3 t65) fun t66 =>
    bdV (f_X12_stands N 3 12 8 3 t66) fun t67 =>
    bdV (f_X12_stands N 4 8 12 2 t67) fun t68 =>
    bdV (f_X12_stands N 5 4 12 2 t68) fun t69 =>
    bdV (f_X12_stands N 6 0 8 1 t69) fun t70 =>
    bdV (f_X12_stands N 7 0 4 1 t70) fun t71 =>
    J5 t71)
    else (J5 t3))) fun J2 =>
    cmpI a0 0 (if a0 = 0 then (cmpI a1 4 (if a1 = 4 then (J2 t)
    else (boI 0 (some (0, t)))))
    else (bdI (f_X12_in N a0 1 3 t) fun v73 t72 =>
    cmpI v73 0 (if v73 = 0 then (boI 0 (some (0, t72)))
    else (bdI (f_X12_in N a1 1 32 t72) fun v75 t74 =>
    cmpI v75 0 (if v75 = 0 then (boI 0 (some (0, t74)))
    else (J2 t74))))))
set_option maxHeartbeats 4000000 in
set_option maxRecDepth 100000 in
theorem t_f_X12_begins_L120 {p : Program} {l : Launch} {e : Env} {s : State} {m : MethodId} {args : Array Value} {below : List Frame} {meth : Method} {c : Code} {E : cE} {A : Nat → Prop} {r : Nat → Nat} {mc ms : Nat} {z : Int × St} {N : Nat} {K10 : (St → Option (Int × St))} {y6 : Int} {y7 : Int} (X : gX p s m meth c cX12_begins 7 (some .boolean) yX12_begins args E A) (hK10 : ∀ (t9 : St), K10 t9 = some z → gP p l e rm_f_X12_begins s m args below meth c E A 7 (MQ below ((gqI E (gW E r shM) z) A) args s mc ms A) (gW E r shM) 343 [(0, .ref (r 200))] [] t9) : ∀ (n9 : Nat) (x8 : Int) (t9 : St), f_X12_begins_L120 N K10 y6 y7 n9 x8 t9 = some z → gP p l e rm_f_X12_begins s m args below meth c E A 7 (MQ below ((gqI E (gW E r shM) z) A) args s mc ms A) (gW E r shM) 120 [(0, .ref (r 200)), (1, iv y6), (2, iv y7), (3, iv x8)] [] t9 := by
  intro n9
  induction n9 with
  | zero => intro x8 t9 h; cases h
  | succ n9 ih =>
    intro x8 t9 h
    unfold f_X12_begins_L120 at h
    refine g_iload_n X dX12_begins_120 3 rfl ?_
    refine g_iload_n X dX12_begins_121 2 rfl ?_
    refine g_icmp_ge (tgt := 343) X dX12_begins_122 (by decide) h (fun h => ?_) (fun h => ?_)
    · exact g_sub (lv' := [(0, .ref (r 200))]) [0] rfl (hK10 t9 h)
    · refine g_iload_n X dX12_begins_125 1 rfl ?_
      refine g_if_le (tgt := 343) X dX12_begins_126 (by decide) h (fun h => ?_) (fun h => ?_)
      · exact g_sub (lv' := [(0, .ref (r 200))]) [0] rfl (hK10 t9 h)
      · refine g_iload_n X dX12_begins_129 3 rfl ?_
        refine g_iconst X dX12_begins_130 ?_
        refine g_irem X dX12_begins_131 h (fun h => ?_)
        refine g_join (J := fun jj => ∀ (j11 : Int) (t12 : St), jj j11 t12 = some z → gP p l e rm_f_X12_begins s m args below meth c E A 7 (MQ below ((gqI E (gW E r shM) z) A) args s mc ms A) (gW E r shM) 140 [(0, .ref (r 200)), (1, iv y6), (2, iv y7), (3, iv x8)] [iv j11] t12) h (fun j11 t12 h => ?_) (fun J13 hJ13 h => ?_)
        · refine g_istore (lv' := [(4, iv j11), (0, .ref (r 200)), (1, iv y6), (2, iv y7), (3, iv x8)]) X dX12_begins_140 (by decide) rfl ?_
          refine g_iconst X dX12_begins_142 ?_
          refine g_iload_n X dX12_begins_143 4 rfl ?_
          refine g_imul X dX12_begins_144 ?_
          refine g_istore (lv' := [(5, iv (2 * x8)), (4, iv j11), (0, .ref (r 200)), (1, iv y6), (2, iv y7), (3, iv x8)]) X dX12_begins_145 (by decide) rfl ?_
          refine g_bipush X dX12_begins_147 (by decide) ?_
          refine g_iload_n X dX12_begins_149 5 rfl ?_
          refine g_iconst X dX12_begins_150 ?_
          refine g_idiv X dX12_begins_151 h (fun h => ?_)
          refine g_imul X dX12_begins_152 ?_
          refine g_istore (lv' := [(6, iv (8 * (x8 / 2))), (5, iv (2 * x8)), (4, iv j11), (0, .ref (r 200)), (1, iv y6), (2, iv y7), (3, iv x8)]) X dX12_begins_153 (by decide) rfl ?_
          refine g_iload_n X dX12_begins_155 4 rfl ?_
          refine g_iconst X dX12_begins_156 ?_
          refine g_join (J := fun jj => ∀ (t14 : St), jj  t14 = some z → gP p l e rm_f_X12_begins s m args below meth c E A 7 (MQ below ((gqI E (gW E r shM) z) A) args s mc ms A) (gW E r shM) 337 [(0, .ref (r 200)), (1, iv y6), (2, iv y7), (3, iv x8)] [] t14) h (fun  t14 h => ?_) (fun J15 hJ15 h => ?_)
          · refine g_iinc (lv' := [(3, iv (x8 + 1)), (0, .ref (r 200)), (1, iv y6), (2, iv y7)]) X dX12_begins_337 (k := 3) rfl (by decide) rfl ?_
            refine g_goto (tgt := 120) X dX12_begins_340 (by decide) ?_
            exact g_sub (lv' := [(0, .ref (r 200)), (1, iv y6), (2, iv y7), (3, iv (x8 + 1))]) [1, 2, 3, 0] rfl (ih (x8 + 1) t14 h)
          refine g_icmp_ne (tgt := 187) X dX12_begins_157 (by decide) h (fun h => ?_) (fun h => ?_)
          · refine g_iload_n X dX12_begins_187 4 rfl ?_
            refine g_iconst X dX12_begins_188 ?_
            refine g_icmp_ne (tgt := 255) X dX12_begins_189 (by decide) h (fun h => ?_) (fun h => ?_)
            · refine g_aload_n X dX12_begins_255 3 rfl ?_
              refine g_iload X dX12_begins_256 1 rfl ?_
              refine g_iload X dX12_begins_258 2 rfl ?_
              refine g_join (J := fun jj => ∀ (j16 : Int) (t17 : St), jj j16 t17 = some z → gP p l e rm_f_X12_begins s m args below meth c E A 7 (MQ below ((gqI E (gW E r shM) z) A) args s mc ms A) (gW E r shM) 268 [(0, .ref (r 200)), (1, iv y6), (2, iv y7), (3, iv x8), (4, iv j11), (5, iv (2 * x8)), (6, iv (8 * (x8 / 2)))] [iv j16, iv (2 * x8), .ref (r 200)] t17) h (fun j16 t17 h => ?_) (fun J18 hJ18 h => ?_)
              · refine g_iload X dX12_begins_268 4 rfl ?_
                refine g_join (J := fun jj => ∀ (j19 : Int) (t20 : St), jj j19 t20 = some z → gP p l e rm_f_X12_begins s m args below meth c E A 7 (MQ below ((gqI E (gW E r shM) z) A) args s mc ms A) (gW E r shM) 282 [(0, .ref (r 200)), (1, iv y6), (2, iv y7), (3, iv x8), (4, iv j11), (5, iv (2 * x8)), (6, iv (8 * (x8 / 2)))] [iv j19, iv j16, iv (2 * x8), .ref (r 200)] t20) h (fun j19 t20 h => ?_) (fun J21 hJ21 h => ?_)
                · refine g_iload X dX12_begins_282 4 rfl ?_
                  refine g_join (J := fun jj => ∀ (j22 : Int) (t23 : St), jj j22 t23 = some z → gP p l e rm_f_X12_begins s m args below meth c E A 7 (MQ below ((gqI E (gW E r shM) z) A) args s mc ms A) (gW E r shM) 292 [(0, .ref (r 200)), (1, iv y6), (2, iv y7), (3, iv x8), (4, iv j11), (5, iv (2 * x8)), (6, iv (8 * (x8 / 2)))] [iv j22, iv j19, iv j16, iv (2 * x8), .ref (r 200)] t23) h (fun j22 t23 h => ?_) (fun J24 hJ24 h => ?_)
                  · refine g_callV (rest := []) X (fun u9 h9 => cp_X12_stands l E r N (2 * x8) j16 j19 j22 t23 u9 h9) yy_X12_stands yi_X12_stands wdM_RX12_234 0 12 (gW_at oM) rfl rfl rfl (Nat.le_of_ble_eq_true rfl) dX12_begins_292 ⟨by decide, by decide⟩ ⟨rfl, rfl⟩ h (fun t25 h => ?_)
                    refine g_aload_n X dX12_begins_295 0 rfl ?_
                    refine g_iload X dX12_begins_296 5 rfl ?_
                    refine g_iconst X dX12_begins_298 ?_
                    refine g_iadd X dX12_begins_299 ?_
                    refine g_iload X dX12_begins_300 4 rfl ?_
                    refine g_join (J := fun jj => ∀ (j26 : Int) (t27 : St), jj j26 t27 = some z → gP p l e rm_f_X12_begins s m args below meth c E A 7 (MQ below ((gqI E (gW E r shM) z) A) args s mc ms A) (gW E r shM) 310 [(0, .ref (r 200)), (1, iv y6), (2, iv y7), (3, iv x8), (4, iv j11), (6, iv (8 * (x8 / 2)))] [iv j26, iv ((2 * x8) + 1), .ref (r 200)] t27) h (fun j26 t27 h => ?_) (fun J28 hJ28 h => ?_)
                    · refine g_iload X dX12_begins_310 4 rfl ?_
                      refine g_join (J := fun jj => ∀ (j29 : Int) (t30 : St), jj j29 t30 = some z → gP p l e rm_f_X12_begins s m args below meth c E A 7 (MQ below ((gqI E (gW E r shM) z) A) args s mc ms A) (gW E r shM) 324 [(0, .ref (r 200)), (1, iv y6), (2, iv y7), (3, iv x8), (4, iv j11)] [iv j29, iv j26, iv ((2 * x8) + 1), .ref (r 200)] t30) h (fun j29 t30 h => ?_) (fun J31 hJ31 h => ?_)
                      · refine g_iload X dX12_begins_324 4 rfl ?_
                        refine g_join (J := fun jj => ∀ (j32 : Int) (t33 : St), jj j32 t33 = some z → gP p l e rm_f_X12_begins s m args below meth c E A 7 (MQ below ((gqI E (gW E r shM) z) A) args s mc ms A) (gW E r shM) 334 [(0, .ref (r 200)), (1, iv y6), (2, iv y7), (3, iv x8)] [iv j32, iv j29, iv j26, iv ((2 * x8) + 1), .ref (r 200)] t33) h (fun j32 t33 h => ?_) (fun J34 hJ34 h => ?_)
                        · refine g_callV (rest := []) X (fun u9 h9 => cp_X12_stands l E r N ((2 * x8) + 1) j26 j29 j32 t33 u9 h9) yy_X12_stands yi_X12_stands wdM_RX12_234 0 12 (gW_at oM) rfl rfl rfl (Nat.le_of_ble_eq_true rfl) dX12_begins_334 ⟨by decide, by decide⟩ ⟨rfl, rfl⟩ h (fun t35 h => ?_)
                          exact g_sub (lv' := [(0, .ref (r 200)), (1, iv y6), (2, iv y7), (3, iv x8)]) [0, 1, 2, 3] rfl (hJ15 t35 h)
                        refine g_if_eq (tgt := 333) X dX12_begins_326 (by decide) h (fun h => ?_) (fun h => ?_)
                        · refine g_iconst X dX12_begins_333 ?_
                          exact g_sub (lv' := [(0, .ref (r 200)), (1, iv y6), (2, iv y7), (3, iv x8)]) [0, 1, 2, 3] rfl (hJ34 3 t30 h)
                        · refine g_iconst X dX12_begins_329 ?_
                          refine g_goto (tgt := 334) X dX12_begins_330 (by decide) ?_
                          exact g_sub (lv' := [(0, .ref (r 200)), (1, iv y6), (2, iv y7), (3, iv x8)]) [0, 1, 2, 3] rfl (hJ34 1 t30 h)
                      refine g_if_eq (tgt := 320) X dX12_begins_312 (by decide) h (fun h => ?_) (fun h => ?_)
                      · refine g_iload X dX12_begins_320 5 rfl ?_
                        refine g_iconst X dX12_begins_322 ?_
                        refine g_iadd X dX12_begins_323 ?_
                        exact g_sub (lv' := [(0, .ref (r 200)), (1, iv y6), (2, iv y7), (3, iv x8), (4, iv j11)]) [0, 1, 2, 3, 4] rfl (hJ31 ((8 * (x8 / 2)) + 4) t27 h)
                      · refine g_iload X dX12_begins_315 5 rfl ?_
                        refine g_goto (tgt := 324) X dX12_begins_317 (by decide) ?_
                        exact g_sub (lv' := [(0, .ref (r 200)), (1, iv y6), (2, iv y7), (3, iv x8), (4, iv j11)]) [0, 1, 2, 3, 4] rfl (hJ31 (8 * (x8 / 2)) t27 h)
                    refine g_if_eq (tgt := 309) X dX12_begins_302 (by decide) h (fun h => ?_) (fun h => ?_)
                    · refine g_iconst X dX12_begins_309 ?_
                      exact g_sub (lv' := [(0, .ref (r 200)), (1, iv y6), (2, iv y7), (3, iv x8), (4, iv j11), (6, iv (8 * (x8 / 2)))]) [0, 1, 2, 3, 4, 6] rfl (hJ28 4 t25 h)
                    · refine g_iconst X dX12_begins_305 ?_
                      refine g_goto (tgt := 310) X dX12_begins_306 (by decide) ?_
                      exact g_sub (lv' := [(0, .ref (r 200)), (1, iv y6), (2, iv y7), (3, iv x8), (4, iv j11), (6, iv (8 * (x8 / 2)))]) [0, 1, 2, 3, 4, 6] rfl (hJ28 0 t25 h)
                  refine g_if_eq (tgt := 291) X dX12_begins_284 (by decide) h (fun h => ?_) (fun h => ?_)
                  · refine g_iconst X dX12_begins_291 ?_
                    exact g_sub (lv' := [(0, .ref (r 200)), (1, iv y6), (2, iv y7), (3, iv x8), (4, iv j11), (5, iv (2 * x8)), (6, iv (8 * (x8 / 2)))]) [0, 1, 2, 3, 4, 5, 6] rfl (hJ24 3 t20 h)
                  · refine g_iconst X dX12_begins_287 ?_
                    refine g_goto (tgt := 292) X dX12_begins_288 (by decide) ?_
                    exact g_sub (lv' := [(0, .ref (r 200)), (1, iv y6), (2, iv y7), (3, iv x8), (4, iv j11), (5, iv (2 * x8)), (6, iv (8 * (x8 / 2)))]) [0, 1, 2, 3, 4, 5, 6] rfl (hJ24 1 t20 h)
                refine g_if_eq (tgt := 280) X dX12_begins_270 (by decide) h (fun h => ?_) (fun h => ?_)
                · refine g_iload X dX12_begins_280 6 rfl ?_
                  exact g_sub (lv' := [(0, .ref (r 200)), (1, iv y6), (2, iv y7), (3, iv x8), (4, iv j11), (5, iv (2 * x8)), (6, iv (8 * (x8 / 2)))]) [0, 1, 2, 3, 4, 5, 6] rfl (hJ21 (8 * (x8 / 2)) t17 h)
                · refine g_iload X dX12_begins_273 6 rfl ?_
                  refine g_iconst X dX12_begins_275 ?_
                  refine g_iadd X dX12_begins_276 ?_
                  refine g_goto (tgt := 282) X dX12_begins_277 (by decide) ?_
                  exact g_sub (lv' := [(0, .ref (r 200)), (1, iv y6), (2, iv y7), (3, iv x8), (4, iv j11), (5, iv (2 * x8)), (6, iv (8 * (x8 / 2)))]) [0, 1, 2, 3, 4, 5, 6] rfl (hJ21 ((8 * (x8 / 2)) + 4) t17 h)
              refine g_if_eq (tgt := 267) X dX12_begins_260 (by decide) h (fun h => ?_) (fun h => ?_)
              · refine g_iconst X dX12_begins_267 ?_
                exact g_sub (lv' := [(0, .ref (r 200)), (1, iv y6), (2, iv y7), (3, iv x8), (4, iv j11), (5, iv (2 * x8)), (6, iv (8 * (x8 / 2)))]) [3, 4, 5, 6, 2, 1, 0] rfl (hJ18 4 t12 h)
              · refine g_iconst X dX12_begins_263 ?_
                refine g_goto (tgt := 268) X dX12_begins_264 (by decide) ?_
                exact g_sub (lv' := [(0, .ref (r 200)), (1, iv y6), (2, iv y7), (3, iv x8), (4, iv j11), (5, iv (2 * x8)), (6, iv (8 * (x8 / 2)))]) [3, 4, 5, 6, 2, 1, 0] rfl (hJ18 0 t12 h)
            · refine g_aload_n X dX12_begins_192 3 rfl ?_
              refine g_iload X dX12_begins_193 1 rfl ?_
              refine g_iload X dX12_begins_195 2 rfl ?_
              refine g_join (J := fun jj => ∀ (j36 : Int) (t37 : St), jj j36 t37 = some z → gP p l e rm_f_X12_begins s m args below meth c E A 7 (MQ below ((gqI E (gW E r shM) z) A) args s mc ms A) (gW E r shM) 205 [(0, .ref (r 200)), (1, iv y6), (2, iv y7), (3, iv x8), (4, iv j11), (5, iv (2 * x8))] [iv j36, iv (2 * x8), .ref (r 200)] t37) h (fun j36 t37 h => ?_) (fun J38 hJ38 h => ?_)
              · refine g_iconst X dX12_begins_205 ?_
                refine g_iload_n X dX12_begins_206 3 rfl ?_
                refine g_imul X dX12_begins_207 ?_
                refine g_iload X dX12_begins_208 4 rfl ?_
                refine g_join (J := fun jj => ∀ (j39 : Int) (t40 : St), jj j39 t40 = some z → gP p l e rm_f_X12_begins s m args below meth c E A 7 (MQ below ((gqI E (gW E r shM) z) A) args s mc ms A) (gW E r shM) 218 [(0, .ref (r 200)), (1, iv y6), (2, iv y7), (3, iv x8), (4, iv j11), (5, iv (2 * x8))] [iv j39, iv (4 * x8), iv j36, iv (2 * x8), .ref (r 200)] t40) h (fun j39 t40 h => ?_) (fun J41 hJ41 h => ?_)
                · refine g_callV (rest := []) X (fun u9 h9 => cp_X12_stands l E r N (2 * x8) j36 (4 * x8) j39 t40 u9 h9) yy_X12_stands yi_X12_stands wdM_RX12_234 0 12 (gW_at oM) rfl rfl rfl (Nat.le_of_ble_eq_true rfl) dX12_begins_218 ⟨by decide, by decide⟩ ⟨rfl, rfl⟩ h (fun t42 h => ?_)
                  refine g_aload_n X dX12_begins_221 0 rfl ?_
                  refine g_iload X dX12_begins_222 5 rfl ?_
                  refine g_iconst X dX12_begins_224 ?_
                  refine g_iadd X dX12_begins_225 ?_
                  refine g_iload X dX12_begins_226 4 rfl ?_
                  refine g_join (J := fun jj => ∀ (j43 : Int) (t44 : St), jj j43 t44 = some z → gP p l e rm_f_X12_begins s m args below meth c E A 7 (MQ below ((gqI E (gW E r shM) z) A) args s mc ms A) (gW E r shM) 236 [(0, .ref (r 200)), (1, iv y6), (2, iv y7), (3, iv x8), (4, iv j11)] [iv j43, iv ((2 * x8) + 1), .ref (r 200)] t44) h (fun j43 t44 h => ?_) (fun J45 hJ45 h => ?_)
                  · refine g_iconst X dX12_begins_236 ?_
                    refine g_iload_n X dX12_begins_237 3 rfl ?_
                    refine g_imul X dX12_begins_238 ?_
                    refine g_iload X dX12_begins_239 4 rfl ?_
                    refine g_join (J := fun jj => ∀ (j46 : Int) (t47 : St), jj j46 t47 = some z → gP p l e rm_f_X12_begins s m args below meth c E A 7 (MQ below ((gqI E (gW E r shM) z) A) args s mc ms A) (gW E r shM) 249 [(0, .ref (r 200)), (1, iv y6), (2, iv y7), (3, iv x8)] [iv j46, iv (4 * x8), iv j43, iv ((2 * x8) + 1), .ref (r 200)] t47) h (fun j46 t47 h => ?_) (fun J48 hJ48 h => ?_)
                    · refine g_callV (rest := []) X (fun u9 h9 => cp_X12_stands l E r N ((2 * x8) + 1) j43 (4 * x8) j46 t47 u9 h9) yy_X12_stands yi_X12_stands wdM_RX12_234 0 12 (gW_at oM) rfl rfl rfl (Nat.le_of_ble_eq_true rfl) dX12_begins_249 ⟨by decide, by decide⟩ ⟨rfl, rfl⟩ h (fun t49 h => ?_)
                      refine g_goto (tgt := 337) X dX12_begins_252 (by decide) ?_
                      exact g_sub (lv' := [(0, .ref (r 200)), (1, iv y6), (2, iv y7), (3, iv x8)]) [0, 1, 2, 3] rfl (hJ15 t49 h)
                    refine g_if_eq (tgt := 248) X dX12_begins_241 (by decide) h (fun h => ?_) (fun h => ?_)
                    · refine g_iconst X dX12_begins_248 ?_
                      exact g_sub (lv' := [(0, .ref (r 200)), (1, iv y6), (2, iv y7), (3, iv x8)]) [0, 1, 2, 3] rfl (hJ48 2 t44 h)
                    · refine g_iconst X dX12_begins_244 ?_
                      refine g_goto (tgt := 249) X dX12_begins_245 (by decide) ?_
                      exact g_sub (lv' := [(0, .ref (r 200)), (1, iv y6), (2, iv y7), (3, iv x8)]) [0, 1, 2, 3] rfl (hJ48 0 t44 h)
                  refine g_if_eq (tgt := 235) X dX12_begins_228 (by decide) h (fun h => ?_) (fun h => ?_)
                  · refine g_iconst X dX12_begins_235 ?_
                    exact g_sub (lv' := [(0, .ref (r 200)), (1, iv y6), (2, iv y7), (3, iv x8), (4, iv j11)]) [0, 1, 2, 3, 4] rfl (hJ45 0 t42 h)
                  · refine g_iconst X dX12_begins_231 ?_
                    refine g_goto (tgt := 236) X dX12_begins_232 (by decide) ?_
                    exact g_sub (lv' := [(0, .ref (r 200)), (1, iv y6), (2, iv y7), (3, iv x8), (4, iv j11)]) [0, 1, 2, 3, 4] rfl (hJ45 4 t42 h)
                refine g_if_eq (tgt := 217) X dX12_begins_210 (by decide) h (fun h => ?_) (fun h => ?_)
                · refine g_iconst X dX12_begins_217 ?_
                  exact g_sub (lv' := [(0, .ref (r 200)), (1, iv y6), (2, iv y7), (3, iv x8), (4, iv j11), (5, iv (2 * x8))]) [0, 1, 2, 3, 4, 5] rfl (hJ41 2 t37 h)
                · refine g_iconst X dX12_begins_213 ?_
                  refine g_goto (tgt := 218) X dX12_begins_214 (by decide) ?_
                  exact g_sub (lv' := [(0, .ref (r 200)), (1, iv y6), (2, iv y7), (3, iv x8), (4, iv j11), (5, iv (2 * x8))]) [0, 1, 2, 3, 4, 5] rfl (hJ41 0 t37 h)
              refine g_if_eq (tgt := 204) X dX12_begins_197 (by decide) h (fun h => ?_) (fun h => ?_)
              · refine g_iconst X dX12_begins_204 ?_
                exact g_sub (lv' := [(0, .ref (r 200)), (1, iv y6), (2, iv y7), (3, iv x8), (4, iv j11), (5, iv (2 * x8))]) [3, 4, 5, 6, 2, 1] rfl (hJ38 4 t12 h)
              · refine g_iconst X dX12_begins_200 ?_
                refine g_goto (tgt := 205) X dX12_begins_201 (by decide) ?_
                exact g_sub (lv' := [(0, .ref (r 200)), (1, iv y6), (2, iv y7), (3, iv x8), (4, iv j11), (5, iv (2 * x8))]) [3, 4, 5, 6, 2, 1] rfl (hJ38 0 t12 h)
          · refine g_aload_n X dX12_begins_160 3 rfl ?_
            refine g_iload X dX12_begins_161 1 rfl ?_
            refine g_iconst X dX12_begins_163 ?_
            refine g_iconst X dX12_begins_164 ?_
            refine g_iload_n X dX12_begins_165 6 rfl ?_
            refine g_imul X dX12_begins_166 ?_
            refine g_iconst X dX12_begins_167 ?_
            refine g_callV (rest := []) X (fun u9 h9 => cp_X12_stands l E r N (2 * x8) 0 (4 * x8) 1 t12 u9 h9) yy_X12_stands yi_X12_stands wdM_RX12_234 0 12 (gW_at oM) rfl rfl rfl (Nat.le_of_ble_eq_true rfl) dX12_begins_168 ⟨by decide, by decide⟩ ⟨rfl, rfl⟩ h (fun t50 h => ?_)
            refine g_aload_n X dX12_begins_171 3 rfl ?_
            refine g_iload X dX12_begins_172 1 rfl ?_
            refine g_iconst X dX12_begins_174 ?_
            refine g_iadd X dX12_begins_175 ?_
            refine g_iconst X dX12_begins_176 ?_
            refine g_iconst X dX12_begins_177 ?_
            refine g_iload_n X dX12_begins_178 6 rfl ?_
            refine g_imul X dX12_begins_179 ?_
            refine g_iconst X dX12_begins_180 ?_
            refine g_callV (rest := []) X (fun u9 h9 => cp_X12_stands l E r N ((2 * x8) + 1) 4 (4 * x8) 3 t50 u9 h9) yy_X12_stands yi_X12_stands wdM_RX12_234 0 12 (gW_at oM) rfl rfl rfl (Nat.le_of_ble_eq_true rfl) dX12_begins_181 ⟨by decide, by decide⟩ ⟨rfl, rfl⟩ h (fun t51 h => ?_)
            refine g_goto (tgt := 337) X dX12_begins_184 (by decide) ?_
            exact g_sub (lv' := [(0, .ref (r 200)), (1, iv y6), (2, iv y7), (3, iv x8)]) [3, 4, 5, 6] rfl (hJ15 t51 h)
        refine g_if_ne (tgt := 139) X dX12_begins_132 (by decide) h (fun h => ?_) (fun h => ?_)
        · refine g_iconst X dX12_begins_139 ?_
          exact g_sub (lv' := [(0, .ref (r 200)), (1, iv y6), (2, iv y7), (3, iv x8)]) [0, 1, 2, 3] rfl (hJ13 0 t9 h)
        · refine g_iconst X dX12_begins_135 ?_
          refine g_goto (tgt := 140) X dX12_begins_136 (by decide) ?_
          exact g_sub (lv' := [(0, .ref (r 200)), (1, iv y6), (2, iv y7), (3, iv x8)]) [0, 1, 2, 3] rfl (hJ13 1 t9 h)
set_option maxHeartbeats 4000000 in
set_option maxRecDepth 100000 in
theorem t_f_X12_begins_L345 {p : Program} {l : Launch} {e : Env} {s : State} {m : MethodId} {args : Array Value} {below : List Frame} {meth : Method} {c : Code} {E : cE} {A : Nat → Prop} {r : Nat → Nat} {mc ms : Nat} {z : Int × St} {K55 : (St → Option (Int × St))} (X : gX p s m meth c cX12_begins 7 (some .boolean) yX12_begins args E A) (hK55 : ∀ (t9 : St), K55 t9 = some z → gP p l e rm_f_X12_begins s m args below meth c E A 7 (MQ below ((gqI E (gW E r shM) z) A) args s mc ms A) (gW E r shM) 395 [] [] t9) : ∀ (n9 : Nat) (x53 : Int) (t54 : St), f_X12_begins_L345 K55 n9 x53 t54 = some z → gP p l e rm_f_X12_begins s m args below meth c E A 7 (MQ below ((gqI E (gW E r shM) z) A) args s mc ms A) (gW E r shM) 345 [(0, .ref (r 200)), (3, iv x53)] [] t54 := by
  intro n9
  induction n9 with
  | zero => intro x53 t54 h; cases h
  | succ n9 ih =>
    intro x53 t54 h
    unfold f_X12_begins_L345 at h
    refine g_iload_n X dX12_begins_345 1 rfl ?_
    refine g_aload_n X dX12_begins_346 0 rfl ?_
    refine g_getI X fM_37 rfl dX12_begins_347 h (fun v56 h => ?_)
    refine g_icmp_ge (tgt := 395) X dX12_begins_350 (by decide) h (fun h => ?_) (fun h => ?_)
    · exact g_sub (lv' := []) [] rfl (hK55 t54 h)
    · refine g_aload_n X dX12_begins_353 0 rfl ?_
      refine g_getR X fM_44 rfl dX12_begins_354 ?_
      refine g_iload_n X dX12_begins_357 1 rfl ?_
      refine g_aload_n X dX12_begins_358 0 rfl ?_
      refine g_getR X fM_38 rfl dX12_begins_359 ?_
      refine g_iload_n X dX12_begins_362 1 rfl ?_
      refine g_iald X aM_38 dX12_begins_363 h (fun v57 h => ?_)
      refine g_iast X aM_44 dX12_begins_364 h (fun t58 h => ?_)
      refine g_aload_n X dX12_begins_365 0 rfl ?_
      refine g_getR X fM_45 rfl dX12_begins_366 ?_
      refine g_iload_n X dX12_begins_369 1 rfl ?_
      refine g_aload_n X dX12_begins_370 0 rfl ?_
      refine g_getR X fM_39 rfl dX12_begins_371 ?_
      refine g_iload_n X dX12_begins_374 1 rfl ?_
      refine g_iald X aM_39 dX12_begins_375 h (fun v59 h => ?_)
      refine g_iast X aM_45 dX12_begins_376 h (fun t60 h => ?_)
      refine g_aload_n X dX12_begins_377 0 rfl ?_
      refine g_getR X fM_46 rfl dX12_begins_378 ?_
      refine g_iload_n X dX12_begins_381 1 rfl ?_
      refine g_aload_n X dX12_begins_382 0 rfl ?_
      refine g_getR X fM_40 rfl dX12_begins_383 ?_
      refine g_iload_n X dX12_begins_386 1 rfl ?_
      refine g_iald X aM_40 dX12_begins_387 h (fun v61 h => ?_)
      refine g_iast X aM_46 dX12_begins_388 h (fun t62 h => ?_)
      refine g_iinc (lv' := [(3, iv (x53 + 1)), (0, .ref (r 200))]) X dX12_begins_389 (k := 1) rfl (by decide) rfl ?_
      refine g_goto (tgt := 345) X dX12_begins_392 (by decide) ?_
      exact g_sub (lv' := [(0, .ref (r 200)), (3, iv (x53 + 1))]) [1, 0] rfl (ih (x53 + 1) t62 h)
set_option maxHeartbeats 4000000 in
set_option maxRecDepth 100000 in
theorem b_f_X12_begins {p : Program} {l : Launch} {e : Env} {s : State} {m : MethodId} {args : Array Value} {below : List Frame} {meth : Method} {c : Code} {E : cE} {A : Nat → Prop} {r : Nat → Nat} {mc ms : Nat} {z : Int × St} {N : Nat} {a0 : Int} {a1 : Int} {t : St} (X : gX p s m meth c cX12_begins 7 (some .boolean) yX12_begins args E A) (h : f_X12_begins N a0 a1 t = some z) : gP p l e rm_f_X12_begins s m args below meth c E A 7 (MQ below ((gqI E (gW E r shM) z) A) args s mc ms A) (gW E r shM) 0 [(0, .ref (r 200)), (1, iv a0), (2, iv a1)] [] t := by
  unfold f_X12_begins at h
  refine g_iload_n X dX12_begins_0 1 rfl ?_
  refine g_join (J := fun jj => ∀ (t1 : St), jj  t1 = some z → gP p l e rm_f_X12_begins s m args below meth c E A 7 (MQ below ((gqI E (gW E r shM) z) A) args s mc ms A) (gW E r shM) 33 [(0, .ref (r 200)), (1, iv a0), (2, iv a1)] [] t1) h (fun  t1 h => ?_) (fun J2 hJ2 h => ?_)
  · refine g_aload_n X dX12_begins_33 0 rfl ?_
    refine g_iconst X dX12_begins_34 ?_
    refine g_iload_n X dX12_begins_35 2 rfl ?_
    refine g_imul X dX12_begins_36 ?_
    refine g_putI X fM_37w rfl dX12_begins_37 h (fun t3 h => ?_)
    refine g_iload_n X dX12_begins_40 1 rfl ?_
    refine g_join (J := fun jj => ∀ (t4 : St), jj  t4 = some z → gP p l e rm_f_X12_begins s m args below meth c E A 7 (MQ below ((gqI E (gW E r shM) z) A) args s mc ms A) (gW E r shM) 118 [(0, .ref (r 200)), (1, iv a0), (2, iv a1)] [] t4) h (fun  t4 h => ?_) (fun J5 hJ5 h => ?_)
    · refine g_iconst X dX12_begins_118 ?_
      refine g_istore_n (lv' := [(3, iv 0), (0, .ref (r 200)), (1, iv a0), (2, iv a1)]) X dX12_begins_119 rfl (by decide) rfl ?_
      refine g_sub (lv' := [(0, .ref (r 200)), (1, iv a0), (2, iv a1), (3, iv 0)]) [1, 2, 3, 0] rfl (t_f_X12_begins_L120 X (fun t52 h => ?_) N 0 t4 h)
      · refine g_iconst X dX12_begins_343 ?_
        refine g_istore_n (lv' := [(3, iv 0), (0, .ref (r 200))]) X dX12_begins_344 rfl (by decide) rfl ?_
        refine g_sub (lv' := [(0, .ref (r 200)), (3, iv 0)]) [1, 0] rfl (t_f_X12_begins_L345 X (fun t63 h => ?_) N 0 t52 h)
        · refine g_iconst X dX12_begins_395 ?_
          exact g_zret X h dX12_begins_396
    refine g_if_ne (tgt := 118) X dX12_begins_41 (by decide) h (fun h => ?_) (fun h => ?_)
    · exact g_sub (lv' := [(0, .ref (r 200)), (1, iv a0), (2, iv a1)]) [0, 1, 2] rfl (hJ5 t3 h)
    · refine g_aload_n X dX12_begins_44 0 rfl ?_
      refine g_iconst X dX12_begins_45 ?_
      refine g_iconst X dX12_begins_46 ?_
      refine g_iconst X dX12_begins_47 ?_
      refine g_iconst X dX12_begins_48 ?_
      refine g_callV (rest := []) X (fun u9 h9 => cp_X12_stands l E r N 0 4 0 0 t3 u9 h9) yy_X12_stands yi_X12_stands wdM_RX12_234 0 12 (gW_at oM) rfl rfl rfl (Nat.le_of_ble_eq_true rfl) dX12_begins_49 ⟨by decide, by decide⟩ ⟨rfl, rfl⟩ h (fun t64 h => ?_)
      refine g_aload_n X dX12_begins_52 0 rfl ?_
      refine g_iconst X dX12_begins_53 ?_
      refine g_bipush X dX12_begins_54 (by decide) ?_
      refine g_iconst X dX12_begins_56 ?_
      refine g_iconst X dX12_begins_57 ?_
      refine g_callV (rest := []) X (fun u9 h9 => cp_X12_stands l E r N 1 8 0 0 t64 u9 h9) yy_X12_stands yi_X12_stands wdM_RX12_234 0 12 (gW_at oM) rfl rfl rfl (Nat.le_of_ble_eq_true rfl) dX12_begins_58 ⟨by decide, by decide⟩ ⟨rfl, rfl⟩ h (fun t65 h => ?_)
      refine g_aload_n X dX12_begins_61 0 rfl ?_
      refine g_iconst X dX12_begins_62 ?_
      refine g_bipush X dX12_begins_63 (by decide) ?_
      refine g_iconst X dX12_begins_65 ?_
      refine g_iconst X dX12_begins_66 ?_
      refine g_callV (rest := []) X (fun u9 h9 => cp_X12_stands l E r N 2 12 4 3 t65 u9 h9) yy_X12_stands yi_X12_stands wdM_RX12_234 0 12 (gW_at oM) rfl rfl rfl (Nat.le_of_ble_eq_true rfl) dX12_begins_67 ⟨by decide, by decide⟩ ⟨rfl, rfl⟩ h (fun t66 h => ?_)
      refine g_aload_n X dX12_begins_70 0 rfl ?_
      refine g_iconst X dX12_begins_71 ?_
      refine g_bipush X dX12_begins_72 (by decide) ?_
      refine g_bipush X dX12_begins_74 (by decide) ?_
      refine g_iconst X dX12_begins_76 ?_
      refine g_callV (rest := []) X (fun u9 h9 => cp_X12_stands l E r N 3 12 8 3 t66 u9 h9) yy_X12_stands yi_X12_stands wdM_RX12_234 0 12 (gW_at oM) rfl rfl rfl (Nat.le_of_ble_eq_true rfl) dX12_begins_77 ⟨by decide, by decide⟩ ⟨rfl, rfl⟩ h (fun t67 h => ?_)
      refine g_aload_n X dX12_begins_80 0 rfl ?_
      refine g_iconst X dX12_begins_81 ?_
      refine g_bipush X dX12_begins_82 (by decide) ?_
      refine g_bipush X dX12_begins_84 (by decide) ?_
      refine g_iconst X dX12_begins_86 ?_
      refine g_callV (rest := []) X (fun u9 h9 => cp_X12_stands l E r N 4 8 12 2 t67 u9 h9) yy_X12_stands yi_X12_stands wdM_RX12_234 0 12 (gW_at oM) rfl rfl rfl (Nat.le_of_ble_eq_true rfl) dX12_begins_87 ⟨by decide, by decide⟩ ⟨rfl, rfl⟩ h (fun t68 h => ?_)
      refine g_aload_n X dX12_begins_90 0 rfl ?_
      refine g_iconst X dX12_begins_91 ?_
      refine g_iconst X dX12_begins_92 ?_
      refine g_bipush X dX12_begins_93 (by decide) ?_
      refine g_iconst X dX12_begins_95 ?_
      refine g_callV (rest := []) X (fun u9 h9 => cp_X12_stands l E r N 5 4 12 2 t68 u9 h9) yy_X12_stands yi_X12_stands wdM_RX12_234 0 12 (gW_at oM) rfl rfl rfl (Nat.le_of_ble_eq_true rfl) dX12_begins_96 ⟨by decide, by decide⟩ ⟨rfl, rfl⟩ h (fun t69 h => ?_)
      refine g_aload_n X dX12_begins_99 0 rfl ?_
      refine g_bipush X dX12_begins_100 (by decide) ?_
      refine g_iconst X dX12_begins_102 ?_
      refine g_bipush X dX12_begins_103 (by decide) ?_
      refine g_iconst X dX12_begins_105 ?_
      refine g_callV (rest := []) X (fun u9 h9 => cp_X12_stands l E r N 6 0 8 1 t69 u9 h9) yy_X12_stands yi_X12_stands wdM_RX12_234 0 12 (gW_at oM) rfl rfl rfl (Nat.le_of_ble_eq_true rfl) dX12_begins_106 ⟨by decide, by decide⟩ ⟨rfl, rfl⟩ h (fun t70 h => ?_)
      refine g_aload_n X dX12_begins_109 0 rfl ?_
      refine g_bipush X dX12_begins_110 (by decide) ?_
      refine g_iconst X dX12_begins_112 ?_
      refine g_iconst X dX12_begins_113 ?_
      refine g_iconst X dX12_begins_114 ?_
      refine g_callV (rest := []) X (fun u9 h9 => cp_X12_stands l E r N 7 0 4 1 t70 u9 h9) yy_X12_stands yi_X12_stands wdM_RX12_234 0 12 (gW_at oM) rfl rfl rfl (Nat.le_of_ble_eq_true rfl) dX12_begins_115 ⟨by decide, by decide⟩ ⟨rfl, rfl⟩ h (fun t71 h => ?_)
      exact g_sub (lv' := [(0, .ref (r 200)), (1, iv a0), (2, iv a1)]) [0, 1, 2] rfl (hJ5 t71 h)
  refine g_if_ne (tgt := 12) X dX12_begins_1 (by decide) h (fun h => ?_) (fun h => ?_)
  · refine g_iload_n X dX12_begins_12 1 rfl ?_
    refine g_iconst X dX12_begins_13 ?_
    refine g_iconst X dX12_begins_14 ?_
    refine g_callsI (rest := []) X (fun u9 h9 => cp_X12_in l E r N a0 1 3 t u9 h9) yy_X12_in wdT_X12_in wdM_RX12_227 rfl rfl (Nat.le_of_ble_eq_true rfl) dX12_begins_15 ⟨by decide, by decide⟩ ⟨rfl, rfl⟩ h (fun v73 t72 h => ?_)
    refine g_if_eq (tgt := 31) X dX12_begins_18 (by decide) h (fun h => ?_) (fun h => ?_)
    · refine g_iconst X dX12_begins_31 ?_
      exact g_zret X h dX12_begins_32
    · refine g_iload_n X dX12_begins_21 2 rfl ?_
      refine g_iconst X dX12_begins_22 ?_
      refine g_bipush X dX12_begins_23 (by decide) ?_
      refine g_callsI (rest := []) X (fun u9 h9 => cp_X12_in l E r N a1 1 32 t72 u9 h9) yy_X12_in wdT_X12_in wdM_RX12_227 rfl rfl (Nat.le_of_ble_eq_true rfl) dX12_begins_25 ⟨by decide, by decide⟩ ⟨rfl, rfl⟩ h (fun v75 t74 h => ?_)
      refine g_if_ne (tgt := 33) X dX12_begins_28 (by decide) h (fun h => ?_) (fun h => ?_)
      · exact g_sub (lv' := [(0, .ref (r 200)), (1, iv a0), (2, iv a1)]) [0, 1, 2] rfl (hJ2 t74 h)
      · refine g_iconst X dX12_begins_31 ?_
        exact g_zret X h dX12_begins_32
  · refine g_iload_n X dX12_begins_4 2 rfl ?_
    refine g_iconst X dX12_begins_5 ?_
    refine g_icmp_eq (tgt := 33) X dX12_begins_6 (by decide) h (fun h => ?_) (fun h => ?_)
    · exact g_sub (lv' := [(0, .ref (r 200)), (1, iv a0), (2, iv a1)]) [0, 1, 2] rfl (hJ2 t h)
    · refine g_goto (tgt := 31) X dX12_begins_9 (by decide) ?_
      refine g_iconst X dX12_begins_31 ?_
      exact g_zret X h dX12_begins_32
set_option maxHeartbeats 4000000 in
set_option maxRecDepth 100000 in
theorem cp_X12_begins (l : Launch) (E : cE) (r : Nat → Nat) (N : Nat) (a0 : Int) (a1 : Int) (t : St) (z : Int × St) (h : f_X12_begins N a0 a1 t = some z) : cM l E yX12_begins cX12_begins 7 (some .boolean) rm_f_X12_begins [.ref (r 200), iv a0, iv a1] (gW E r shM t) (gqI E (gW E r shM) z) := by
  refine g_of (w := gW E r shM) (by decide) (Nat.le_of_ble_eq_true rfl) ?_
  intro p e s m below meth c A X
  exact g_sub (lv' := [(0, .ref (r 200)), (1, iv a0), (2, iv a1)]) [0, 1, 2] rfl (b_f_X12_begins X h)
abbrev rm_f_X12_marks : Room := { frames := 0, cells := 0, slots := 0, locals := 0 }
def f_X12_marks_L2 (K3 : (St → Option (St))) : Nat → Int → St → Option (St)
  | 0, _, _ => none
  | n9 + 1, x1, t2 =>
    lt1 (t2.1 200 37) fun v4 =>
    cmpI x1 v4 (if x1 < v4 then (ixI x1 64 (lt1 (t2.1 38 x1.toNat) fun v5 =>
    ixI x1 64 (lt1 (pI t2 47 x1.toNat v5) fun t6 =>
    ixI x1 64 (lt1 (t6.1 39 x1.toNat) fun v7 =>
    ixI x1 64 (lt1 (pI t6 48 x1.toNat v7) fun t8 =>
    ixI x1 64 (lt1 (t8.1 40 x1.toNat) fun v9 =>
    ixI x1 64 (lt1 (pI t8 49 x1.toNat v9) fun t10 =>
    f_X12_marks_L2 K3 n9 (x1 + 1) t10)))))))
    else (K3 t2))
def f_X12_marks (N : Nat) (t : St) : Option (St) :=
    f_X12_marks_L2 (fun (t11 : St) => some t11) N 0 t
set_option maxHeartbeats 4000000 in
set_option maxRecDepth 100000 in
theorem t_f_X12_marks_L2 {p : Program} {l : Launch} {e : Env} {s : State} {m : MethodId} {args : Array Value} {below : List Frame} {meth : Method} {c : Code} {E : cE} {A : Nat → Prop} {r : Nat → Nat} {mc ms : Nat} {z : St} {K3 : (St → Option (St))} (X : gX p s m meth c cX12_marks 2 none yX12_marks args E A) (hK3 : ∀ (t9 : St), K3 t9 = some z → gP p l e rm_f_X12_marks s m args below meth c E A 2 (MQ below ((gqV E (gW E r shM) z) A) args s mc ms A) (gW E r shM) 52 [] [] t9) : ∀ (n9 : Nat) (x1 : Int) (t2 : St), f_X12_marks_L2 K3 n9 x1 t2 = some z → gP p l e rm_f_X12_marks s m args below meth c E A 2 (MQ below ((gqV E (gW E r shM) z) A) args s mc ms A) (gW E r shM) 2 [(0, .ref (r 200)), (1, iv x1)] [] t2 := by
  intro n9
  induction n9 with
  | zero => intro x1 t2 h; cases h
  | succ n9 ih =>
    intro x1 t2 h
    unfold f_X12_marks_L2 at h
    refine g_iload_n X dX12_marks_2 1 rfl ?_
    refine g_aload_n X dX12_marks_3 0 rfl ?_
    refine g_getI X fM_37 rfl dX12_marks_4 h (fun v4 h => ?_)
    refine g_icmp_ge (tgt := 52) X dX12_marks_7 (by decide) h (fun h => ?_) (fun h => ?_)
    · exact g_sub (lv' := []) [] rfl (hK3 t2 h)
    · refine g_aload_n X dX12_marks_10 0 rfl ?_
      refine g_getR X fM_47 rfl dX12_marks_11 ?_
      refine g_iload_n X dX12_marks_14 1 rfl ?_
      refine g_aload_n X dX12_marks_15 0 rfl ?_
      refine g_getR X fM_38 rfl dX12_marks_16 ?_
      refine g_iload_n X dX12_marks_19 1 rfl ?_
      refine g_iald X aM_38 dX12_marks_20 h (fun v5 h => ?_)
      refine g_iast X aM_47 dX12_marks_21 h (fun t6 h => ?_)
      refine g_aload_n X dX12_marks_22 0 rfl ?_
      refine g_getR X fM_48 rfl dX12_marks_23 ?_
      refine g_iload_n X dX12_marks_26 1 rfl ?_
      refine g_aload_n X dX12_marks_27 0 rfl ?_
      refine g_getR X fM_39 rfl dX12_marks_28 ?_
      refine g_iload_n X dX12_marks_31 1 rfl ?_
      refine g_iald X aM_39 dX12_marks_32 h (fun v7 h => ?_)
      refine g_iast X aM_48 dX12_marks_33 h (fun t8 h => ?_)
      refine g_aload_n X dX12_marks_34 0 rfl ?_
      refine g_getR X fM_49 rfl dX12_marks_35 ?_
      refine g_iload_n X dX12_marks_38 1 rfl ?_
      refine g_aload_n X dX12_marks_39 0 rfl ?_
      refine g_getR X fM_40 rfl dX12_marks_40 ?_
      refine g_iload_n X dX12_marks_43 1 rfl ?_
      refine g_iald X aM_40 dX12_marks_44 h (fun v9 h => ?_)
      refine g_iast X aM_49 dX12_marks_45 h (fun t10 h => ?_)
      refine g_iinc (lv' := [(1, iv (x1 + 1)), (0, .ref (r 200))]) X dX12_marks_46 (k := 1) rfl (by decide) rfl ?_
      refine g_goto (tgt := 2) X dX12_marks_49 (by decide) ?_
      exact g_sub (lv' := [(0, .ref (r 200)), (1, iv (x1 + 1))]) [1, 0] rfl (ih (x1 + 1) t10 h)
set_option maxHeartbeats 4000000 in
set_option maxRecDepth 100000 in
theorem b_f_X12_marks {p : Program} {l : Launch} {e : Env} {s : State} {m : MethodId} {args : Array Value} {below : List Frame} {meth : Method} {c : Code} {E : cE} {A : Nat → Prop} {r : Nat → Nat} {mc ms : Nat} {z : St} {N : Nat} {t : St} (X : gX p s m meth c cX12_marks 2 none yX12_marks args E A) (h : f_X12_marks N t = some z) : gP p l e rm_f_X12_marks s m args below meth c E A 2 (MQ below ((gqV E (gW E r shM) z) A) args s mc ms A) (gW E r shM) 0 [(0, .ref (r 200))] [] t := by
  unfold f_X12_marks at h
  refine g_iconst X dX12_marks_0 ?_
  refine g_istore_n (lv' := [(1, iv 0), (0, .ref (r 200))]) X dX12_marks_1 rfl (by decide) rfl ?_
  refine g_sub (lv' := [(0, .ref (r 200)), (1, iv 0)]) [1, 0] rfl (t_f_X12_marks_L2 X (fun t11 h => ?_) N 0 t h)
  · exact g_vret X h dX12_marks_52
set_option maxHeartbeats 4000000 in
set_option maxRecDepth 100000 in
theorem cp_X12_marks (l : Launch) (E : cE) (r : Nat → Nat) (N : Nat) (t : St) (z : St) (h : f_X12_marks N t = some z) : cM l E yX12_marks cX12_marks 2 none rm_f_X12_marks [.ref (r 200)] (gW E r shM t) (gqV E (gW E r shM) z) := by
  refine g_of (w := gW E r shM) (by decide) (Nat.le_of_ble_eq_true rfl) ?_
  intro p e s m below meth c A X
  exact g_sub (lv' := [(0, .ref (r 200))]) [0] rfl (b_f_X12_marks X h)
theorem dX12_isHome_0 : decode cX12_isHome 0 = .ok (.iconst 1, 1) := by decide +kernel
theorem dX12_isHome_1 : decode cX12_isHome 1 = .ok (.istore_n 1, 1) := by decide +kernel
theorem dX12_isHome_2 : decode cX12_isHome 2 = .ok (.iconst 0, 1) := by decide +kernel
theorem dX12_isHome_3 : decode cX12_isHome 3 = .ok (.istore_n 2, 1) := by decide +kernel
theorem dX12_isHome_4 : decode cX12_isHome 4 = .ok (.iload_n 2, 1) := by decide +kernel
theorem dX12_isHome_5 : decode cX12_isHome 5 = .ok (.aload_n 0, 1) := by decide +kernel
theorem dX12_isHome_6 : decode cX12_isHome 6 = .ok (.getfield 231, 3) := by decide +kernel
theorem dX12_isHome_9 : decode cX12_isHome 9 = .ok (.if_icmp .ge 64, 3) := by decide +kernel
theorem dX12_isHome_12 : decode cX12_isHome 12 = .ok (.iload_n 1, 1) := by decide +kernel
theorem dX12_isHome_13 : decode cX12_isHome 13 = .ok (.ifCond .eq 52, 3) := by decide +kernel
theorem dX12_isHome_16 : decode cX12_isHome 16 = .ok (.aload_n 0, 1) := by decide +kernel
theorem dX12_isHome_17 : decode cX12_isHome 17 = .ok (.getfield 71, 3) := by decide +kernel
theorem dX12_isHome_20 : decode cX12_isHome 20 = .ok (.iload_n 2, 1) := by decide +kernel
theorem dX12_isHome_21 : decode cX12_isHome 21 = .ok (.iaload, 1) := by decide +kernel
theorem dX12_isHome_22 : decode cX12_isHome 22 = .ok (.aload_n 0, 1) := by decide +kernel
theorem dX12_isHome_23 : decode cX12_isHome 23 = .ok (.getfield 83, 3) := by decide +kernel
theorem dX12_isHome_26 : decode cX12_isHome 26 = .ok (.iload_n 2, 1) := by decide +kernel
theorem dX12_isHome_27 : decode cX12_isHome 27 = .ok (.iaload, 1) := by decide +kernel
theorem dX12_isHome_28 : decode cX12_isHome 28 = .ok (.if_icmp .ne 37, 3) := by decide +kernel
theorem dX12_isHome_31 : decode cX12_isHome 31 = .ok (.aload_n 0, 1) := by decide +kernel
theorem dX12_isHome_32 : decode cX12_isHome 32 = .ok (.getfield 74, 3) := by decide +kernel
theorem dX12_isHome_35 : decode cX12_isHome 35 = .ok (.iload_n 2, 1) := by decide +kernel
theorem dX12_isHome_36 : decode cX12_isHome 36 = .ok (.iaload, 1) := by decide +kernel
theorem dX12_isHome_37 : decode cX12_isHome 37 = .ok (.aload_n 0, 1) := by decide +kernel
theorem dX12_isHome_38 : decode cX12_isHome 38 = .ok (.getfield 86, 3) := by decide +kernel
theorem dX12_isHome_41 : decode cX12_isHome 41 = .ok (.iload_n 2, 1) := by decide +kernel
theorem dX12_isHome_42 : decode cX12_isHome 42 = .ok (.iaload, 1) := by decide +kernel
theorem dX12_isHome_43 : decode cX12_isHome 43 = .ok (.if_icmp .ne 22, 3) := by decide +kernel
theorem dX12_isHome_46 : decode cX12_isHome 46 = .ok (.aload_n 0, 1) := by decide +kernel
theorem dX12_isHome_47 : decode cX12_isHome 47 = .ok (.getfield 77, 3) := by decide +kernel
theorem dX12_isHome_50 : decode cX12_isHome 50 = .ok (.iload_n 2, 1) := by decide +kernel
theorem dX12_isHome_51 : decode cX12_isHome 51 = .ok (.iaload, 1) := by decide +kernel
theorem dX12_isHome_52 : decode cX12_isHome 52 = .ok (.aload_n 0, 1) := by decide +kernel
theorem dX12_isHome_53 : decode cX12_isHome 53 = .ok (.getfield 89, 3) := by decide +kernel
theorem dX12_isHome_56 : decode cX12_isHome 56 = .ok (.iload_n 2, 1) := by decide +kernel
theorem dX12_isHome_57 : decode cX12_isHome 57 = .ok (.iaload, 1) := by decide +kernel
theorem dX12_isHome_58 : decode cX12_isHome 58 = .ok (.if_icmp .ne 7, 3) := by decide +kernel
theorem dX12_isHome_61 : decode cX12_isHome 61 = .ok (.iconst 1, 1) := by decide +kernel
theorem dX12_isHome_62 : decode cX12_isHome 62 = .ok (.goto 4, 3) := by decide +kernel
theorem dX12_isHome_65 : decode cX12_isHome 65 = .ok (.iconst 0, 1) := by decide +kernel
theorem dX12_isHome_66 : decode cX12_isHome 66 = .ok (.istore_n 1, 1) := by decide +kernel
theorem dX12_isHome_67 : decode cX12_isHome 67 = .ok (.iinc 2 1, 3) := by decide +kernel
theorem dX12_isHome_70 : decode cX12_isHome 70 = .ok (.goto (-66), 3) := by decide +kernel
theorem dX12_isHome_73 : decode cX12_isHome 73 = .ok (.iload_n 1, 1) := by decide +kernel
theorem dX12_isHome_74 : decode cX12_isHome 74 = .ok (.ireturn, 1) := by decide +kernel
abbrev rm_f_X12_isHome : Room := { frames := 0, cells := 0, slots := 0, locals := 0 }
def f_X12_isHome_L4 (K4 : (Int → St → Option (Int × St))) : Nat → Int → Int → St → Option (Int × St)
  | 0, _, _, _ => none
  | n9 + 1, x1, x2, t3 =>
    lt1 (t3.1 200 37) fun v5 =>
    cmpI x2 v5 (if x2 < v5 then (jn1 (fun (j6 : Int) (t7 : St) => f_X12_isHome_L4 K4 n9 j6 (x2 + 1) t7) fun J8 =>
    jn1 (fun (t9 : St) => J8 0 t9) fun J10 =>
    cmpI x1 0 (if x1 = 0 then (J10 t3)
    else (ixI x2 64 (lt1 (t3.1 38 x2.toNat) fun v11 =>
    ixI x2 64 (lt1 (t3.1 44 x2.toNat) fun v12 =>
    cmpI v11 v12 (if v11 = v12 then (ixI x2 64 (lt1 (t3.1 39 x2.toNat) fun v13 =>
    ixI x2 64 (lt1 (t3.1 45 x2.toNat) fun v14 =>
    cmpI v13 v14 (if v13 = v14 then (ixI x2 64 (lt1 (t3.1 40 x2.toNat) fun v15 =>
    ixI x2 64 (lt1 (t3.1 46 x2.toNat) fun v16 =>
    cmpI v15 v16 (if v15 = v16 then (J8 1 t3)
    else (J10 t3)))))
    else (J10 t3)))))
    else (J10 t3)))))))
    else (K4 x1 t3))
def f_X12_isHome (N : Nat) (t : St) : Option (Int × St) :=
    f_X12_isHome_L4 (fun (k17 : Int) (t18 : St) => boI k17 (some (k17, t18))) N 1 0 t
set_option maxHeartbeats 4000000 in
set_option maxRecDepth 100000 in
theorem t_f_X12_isHome_L4 {p : Program} {l : Launch} {e : Env} {s : State} {m : MethodId} {args : Array Value} {below : List Frame} {meth : Method} {c : Code} {E : cE} {A : Nat → Prop} {r : Nat → Nat} {mc ms : Nat} {z : Int × St} {K4 : (Int → St → Option (Int × St))} (X : gX p s m meth c cX12_isHome 3 (some .boolean) yX12_isHome args E A) (hK4 : ∀ (q1 : Int) (t9 : St), K4 q1 t9 = some z → gP p l e rm_f_X12_isHome s m args below meth c E A 3 (MQ below ((gqI E (gW E r shM) z) A) args s mc ms A) (gW E r shM) 73 [(1, iv q1)] [] t9) : ∀ (n9 : Nat) (x1 : Int) (x2 : Int) (t3 : St), f_X12_isHome_L4 K4 n9 x1 x2 t3 = some z → gP p l e rm_f_X12_isHome s m args below meth c E A 3 (MQ below ((gqI E (gW E r shM) z) A) args s mc ms A) (gW E r shM) 4 [(0, .ref (r 200)), (1, iv x1), (2, iv x2)] [] t3 := by
  intro n9
  induction n9 with
  | zero => intro x1 x2 t3 h; cases h
  | succ n9 ih =>
    intro x1 x2 t3 h
    unfold f_X12_isHome_L4 at h
    refine g_iload_n X dX12_isHome_4 2 rfl ?_
    refine g_aload_n X dX12_isHome_5 0 rfl ?_
    refine g_getI X fM_37 rfl dX12_isHome_6 h (fun v5 h => ?_)
    refine g_icmp_ge (tgt := 73) X dX12_isHome_9 (by decide) h (fun h => ?_) (fun h => ?_)
    · exact g_sub (lv' := [(1, iv x1)]) [1] rfl (hK4 x1 t3 h)
    · refine g_iload_n X dX12_isHome_12 1 rfl ?_
      refine g_join (J := fun jj => ∀ (j6 : Int) (t7 : St), jj j6 t7 = some z → gP p l e rm_f_X12_isHome s m args below meth c E A 3 (MQ below ((gqI E (gW E r shM) z) A) args s mc ms A) (gW E r shM) 66 [(0, .ref (r 200)), (2, iv x2)] [iv j6] t7) h (fun j6 t7 h => ?_) (fun J8 hJ8 h => ?_)
      · refine g_istore_n (lv' := [(1, iv j6), (0, .ref (r 200)), (2, iv x2)]) X dX12_isHome_66 rfl (by decide) rfl ?_
        refine g_iinc (lv' := [(2, iv (x2 + 1)), (1, iv j6), (0, .ref (r 200))]) X dX12_isHome_67 (k := 2) rfl (by decide) rfl ?_
        refine g_goto (tgt := 4) X dX12_isHome_70 (by decide) ?_
        exact g_sub (lv' := [(0, .ref (r 200)), (1, iv j6), (2, iv (x2 + 1))]) [2, 1, 0] rfl (ih j6 (x2 + 1) t7 h)
      refine g_join (J := fun jj => ∀ (t9 : St), jj  t9 = some z → gP p l e rm_f_X12_isHome s m args below meth c E A 3 (MQ below ((gqI E (gW E r shM) z) A) args s mc ms A) (gW E r shM) 65 [(0, .ref (r 200)), (2, iv x2)] [] t9) h (fun  t9 h => ?_) (fun J10 hJ10 h => ?_)
      · refine g_iconst X dX12_isHome_65 ?_
        exact g_sub (lv' := [(0, .ref (r 200)), (2, iv x2)]) [0, 1] rfl (hJ8 0 t9 h)
      refine g_if_eq (tgt := 65) X dX12_isHome_13 (by decide) h (fun h => ?_) (fun h => ?_)
      · exact g_sub (lv' := [(0, .ref (r 200)), (2, iv x2)]) [0, 2] rfl (hJ10 t3 h)
      · refine g_aload_n X dX12_isHome_16 0 rfl ?_
        refine g_getR X fM_38 rfl dX12_isHome_17 ?_
        refine g_iload_n X dX12_isHome_20 2 rfl ?_
        refine g_iald X aM_38 dX12_isHome_21 h (fun v11 h => ?_)
        refine g_aload_n X dX12_isHome_22 0 rfl ?_
        refine g_getR X fM_44 rfl dX12_isHome_23 ?_
        refine g_iload_n X dX12_isHome_26 2 rfl ?_
        refine g_iald X aM_44 dX12_isHome_27 h (fun v12 h => ?_)
        refine g_icmp_ne (tgt := 65) X dX12_isHome_28 (by decide) h (fun h => ?_) (fun h => ?_)
        · exact g_sub (lv' := [(0, .ref (r 200)), (2, iv x2)]) [0, 2] rfl (hJ10 t3 h)
        · refine g_aload_n X dX12_isHome_31 0 rfl ?_
          refine g_getR X fM_39 rfl dX12_isHome_32 ?_
          refine g_iload_n X dX12_isHome_35 2 rfl ?_
          refine g_iald X aM_39 dX12_isHome_36 h (fun v13 h => ?_)
          refine g_aload_n X dX12_isHome_37 0 rfl ?_
          refine g_getR X fM_45 rfl dX12_isHome_38 ?_
          refine g_iload_n X dX12_isHome_41 2 rfl ?_
          refine g_iald X aM_45 dX12_isHome_42 h (fun v14 h => ?_)
          refine g_icmp_ne (tgt := 65) X dX12_isHome_43 (by decide) h (fun h => ?_) (fun h => ?_)
          · exact g_sub (lv' := [(0, .ref (r 200)), (2, iv x2)]) [0, 2] rfl (hJ10 t3 h)
          · refine g_aload_n X dX12_isHome_46 0 rfl ?_
            refine g_getR X fM_40 rfl dX12_isHome_47 ?_
            refine g_iload_n X dX12_isHome_50 2 rfl ?_
            refine g_iald X aM_40 dX12_isHome_51 h (fun v15 h => ?_)
            refine g_aload_n X dX12_isHome_52 0 rfl ?_
            refine g_getR X fM_46 rfl dX12_isHome_53 ?_
            refine g_iload_n X dX12_isHome_56 2 rfl ?_
            refine g_iald X aM_46 dX12_isHome_57 h (fun v16 h => ?_)
            refine g_icmp_ne (tgt := 65) X dX12_isHome_58 (by decide) h (fun h => ?_) (fun h => ?_)
            · exact g_sub (lv' := [(0, .ref (r 200)), (2, iv x2)]) [0, 2] rfl (hJ10 t3 h)
            · refine g_iconst X dX12_isHome_61 ?_
              refine g_goto (tgt := 66) X dX12_isHome_62 (by decide) ?_
              exact g_sub (lv' := [(0, .ref (r 200)), (2, iv x2)]) [0, 2] rfl (hJ8 1 t3 h)
set_option maxHeartbeats 4000000 in
set_option maxRecDepth 100000 in
theorem b_f_X12_isHome {p : Program} {l : Launch} {e : Env} {s : State} {m : MethodId} {args : Array Value} {below : List Frame} {meth : Method} {c : Code} {E : cE} {A : Nat → Prop} {r : Nat → Nat} {mc ms : Nat} {z : Int × St} {N : Nat} {t : St} (X : gX p s m meth c cX12_isHome 3 (some .boolean) yX12_isHome args E A) (h : f_X12_isHome N t = some z) : gP p l e rm_f_X12_isHome s m args below meth c E A 3 (MQ below ((gqI E (gW E r shM) z) A) args s mc ms A) (gW E r shM) 0 [(0, .ref (r 200))] [] t := by
  unfold f_X12_isHome at h
  refine g_iconst X dX12_isHome_0 ?_
  refine g_istore_n (lv' := [(1, iv 1), (0, .ref (r 200))]) X dX12_isHome_1 rfl (by decide) rfl ?_
  refine g_iconst X dX12_isHome_2 ?_
  refine g_istore_n (lv' := [(2, iv 0), (1, iv 1), (0, .ref (r 200))]) X dX12_isHome_3 rfl (by decide) rfl ?_
  refine g_sub (lv' := [(0, .ref (r 200)), (1, iv 1), (2, iv 0)]) [2, 1, 0] rfl (t_f_X12_isHome_L4 X (fun k17 t18 h => ?_) N 1 0 t h)
  · refine g_iload_n X dX12_isHome_73 0 rfl ?_
    exact g_zret X h dX12_isHome_74
set_option maxHeartbeats 4000000 in
set_option maxRecDepth 100000 in
theorem cp_X12_isHome (l : Launch) (E : cE) (r : Nat → Nat) (N : Nat) (t : St) (z : Int × St) (h : f_X12_isHome N t = some z) : cM l E yX12_isHome cX12_isHome 3 (some .boolean) rm_f_X12_isHome [.ref (r 200)] (gW E r shM t) (gqI E (gW E r shM) z) := by
  refine g_of (w := gW E r shM) (by decide) (Nat.le_of_ble_eq_true rfl) ?_
  intro p e s m below meth c A X
  exact g_sub (lv' := [(0, .ref (r 200))]) [0] rfl (b_f_X12_isHome X h)
theorem yy_X12_isHome : cY yX12_isHome cX12_isHome 3 (some .boolean) 0 := ⟨wdK_X12_isHome, wdZ_RX12, by decide +kernel⟩
theorem yi_X12_isHome : cYi yX12_isHome := ⟨wdN_X12_isHome, wdS_X12_isHome⟩
theorem dX12_isAim_0 : decode cX12_isAim 0 = .ok (.iconst 1, 1) := by decide +kernel
theorem dX12_isAim_1 : decode cX12_isAim 1 = .ok (.istore_n 1, 1) := by decide +kernel
theorem dX12_isAim_2 : decode cX12_isAim 2 = .ok (.iconst 0, 1) := by decide +kernel
theorem dX12_isAim_3 : decode cX12_isAim 3 = .ok (.istore_n 2, 1) := by decide +kernel
theorem dX12_isAim_4 : decode cX12_isAim 4 = .ok (.iload_n 2, 1) := by decide +kernel
theorem dX12_isAim_5 : decode cX12_isAim 5 = .ok (.aload_n 0, 1) := by decide +kernel
theorem dX12_isAim_6 : decode cX12_isAim 6 = .ok (.getfield 231, 3) := by decide +kernel
theorem dX12_isAim_9 : decode cX12_isAim 9 = .ok (.if_icmp .ge 64, 3) := by decide +kernel
theorem dX12_isAim_12 : decode cX12_isAim 12 = .ok (.iload_n 1, 1) := by decide +kernel
theorem dX12_isAim_13 : decode cX12_isAim 13 = .ok (.ifCond .eq 52, 3) := by decide +kernel
theorem dX12_isAim_16 : decode cX12_isAim 16 = .ok (.aload_n 0, 1) := by decide +kernel
theorem dX12_isAim_17 : decode cX12_isAim 17 = .ok (.getfield 71, 3) := by decide +kernel
theorem dX12_isAim_20 : decode cX12_isAim 20 = .ok (.iload_n 2, 1) := by decide +kernel
theorem dX12_isAim_21 : decode cX12_isAim 21 = .ok (.iaload, 1) := by decide +kernel
theorem dX12_isAim_22 : decode cX12_isAim 22 = .ok (.aload_n 0, 1) := by decide +kernel
theorem dX12_isAim_23 : decode cX12_isAim 23 = .ok (.getfield 92, 3) := by decide +kernel
theorem dX12_isAim_26 : decode cX12_isAim 26 = .ok (.iload_n 2, 1) := by decide +kernel
theorem dX12_isAim_27 : decode cX12_isAim 27 = .ok (.iaload, 1) := by decide +kernel
theorem dX12_isAim_28 : decode cX12_isAim 28 = .ok (.if_icmp .ne 37, 3) := by decide +kernel
theorem dX12_isAim_31 : decode cX12_isAim 31 = .ok (.aload_n 0, 1) := by decide +kernel
theorem dX12_isAim_32 : decode cX12_isAim 32 = .ok (.getfield 74, 3) := by decide +kernel
theorem dX12_isAim_35 : decode cX12_isAim 35 = .ok (.iload_n 2, 1) := by decide +kernel
theorem dX12_isAim_36 : decode cX12_isAim 36 = .ok (.iaload, 1) := by decide +kernel
theorem dX12_isAim_37 : decode cX12_isAim 37 = .ok (.aload_n 0, 1) := by decide +kernel
theorem dX12_isAim_38 : decode cX12_isAim 38 = .ok (.getfield 95, 3) := by decide +kernel
theorem dX12_isAim_41 : decode cX12_isAim 41 = .ok (.iload_n 2, 1) := by decide +kernel
theorem dX12_isAim_42 : decode cX12_isAim 42 = .ok (.iaload, 1) := by decide +kernel
theorem dX12_isAim_43 : decode cX12_isAim 43 = .ok (.if_icmp .ne 22, 3) := by decide +kernel
theorem dX12_isAim_46 : decode cX12_isAim 46 = .ok (.aload_n 0, 1) := by decide +kernel
theorem dX12_isAim_47 : decode cX12_isAim 47 = .ok (.getfield 77, 3) := by decide +kernel
theorem dX12_isAim_50 : decode cX12_isAim 50 = .ok (.iload_n 2, 1) := by decide +kernel
theorem dX12_isAim_51 : decode cX12_isAim 51 = .ok (.iaload, 1) := by decide +kernel
theorem dX12_isAim_52 : decode cX12_isAim 52 = .ok (.aload_n 0, 1) := by decide +kernel
theorem dX12_isAim_53 : decode cX12_isAim 53 = .ok (.getfield 98, 3) := by decide +kernel
theorem dX12_isAim_56 : decode cX12_isAim 56 = .ok (.iload_n 2, 1) := by decide +kernel
theorem dX12_isAim_57 : decode cX12_isAim 57 = .ok (.iaload, 1) := by decide +kernel
theorem dX12_isAim_58 : decode cX12_isAim 58 = .ok (.if_icmp .ne 7, 3) := by decide +kernel
theorem dX12_isAim_61 : decode cX12_isAim 61 = .ok (.iconst 1, 1) := by decide +kernel
theorem dX12_isAim_62 : decode cX12_isAim 62 = .ok (.goto 4, 3) := by decide +kernel
theorem dX12_isAim_65 : decode cX12_isAim 65 = .ok (.iconst 0, 1) := by decide +kernel
theorem dX12_isAim_66 : decode cX12_isAim 66 = .ok (.istore_n 1, 1) := by decide +kernel
theorem dX12_isAim_67 : decode cX12_isAim 67 = .ok (.iinc 2 1, 3) := by decide +kernel
theorem dX12_isAim_70 : decode cX12_isAim 70 = .ok (.goto (-66), 3) := by decide +kernel
theorem dX12_isAim_73 : decode cX12_isAim 73 = .ok (.iload_n 1, 1) := by decide +kernel
theorem dX12_isAim_74 : decode cX12_isAim 74 = .ok (.ireturn, 1) := by decide +kernel
abbrev rm_f_X12_isAim : Room := { frames := 0, cells := 0, slots := 0, locals := 0 }
def f_X12_isAim_L4 (K4 : (Int → St → Option (Int × St))) : Nat → Int → Int → St → Option (Int × St)
  | 0, _, _, _ => none
  | n9 + 1, x1, x2, t3 =>
    lt1 (t3.1 200 37) fun v5 =>
    cmpI x2 v5 (if x2 < v5 then (jn1 (fun (j6 : Int) (t7 : St) => f_X12_isAim_L4 K4 n9 j6 (x2 + 1) t7) fun J8 =>
    jn1 (fun (t9 : St) => J8 0 t9) fun J10 =>
    cmpI x1 0 (if x1 = 0 then (J10 t3)
    else (ixI x2 64 (lt1 (t3.1 38 x2.toNat) fun v11 =>
    ixI x2 64 (lt1 (t3.1 47 x2.toNat) fun v12 =>
    cmpI v11 v12 (if v11 = v12 then (ixI x2 64 (lt1 (t3.1 39 x2.toNat) fun v13 =>
    ixI x2 64 (lt1 (t3.1 48 x2.toNat) fun v14 =>
    cmpI v13 v14 (if v13 = v14 then (ixI x2 64 (lt1 (t3.1 40 x2.toNat) fun v15 =>
    ixI x2 64 (lt1 (t3.1 49 x2.toNat) fun v16 =>
    cmpI v15 v16 (if v15 = v16 then (J8 1 t3)
    else (J10 t3)))))
    else (J10 t3)))))
    else (J10 t3)))))))
    else (K4 x1 t3))
def f_X12_isAim (N : Nat) (t : St) : Option (Int × St) :=
    f_X12_isAim_L4 (fun (k17 : Int) (t18 : St) => boI k17 (some (k17, t18))) N 1 0 t
set_option maxHeartbeats 4000000 in
set_option maxRecDepth 100000 in
theorem t_f_X12_isAim_L4 {p : Program} {l : Launch} {e : Env} {s : State} {m : MethodId} {args : Array Value} {below : List Frame} {meth : Method} {c : Code} {E : cE} {A : Nat → Prop} {r : Nat → Nat} {mc ms : Nat} {z : Int × St} {K4 : (Int → St → Option (Int × St))} (X : gX p s m meth c cX12_isAim 3 (some .boolean) yX12_isAim args E A) (hK4 : ∀ (q1 : Int) (t9 : St), K4 q1 t9 = some z → gP p l e rm_f_X12_isAim s m args below meth c E A 3 (MQ below ((gqI E (gW E r shM) z) A) args s mc ms A) (gW E r shM) 73 [(1, iv q1)] [] t9) : ∀ (n9 : Nat) (x1 : Int) (x2 : Int) (t3 : St), f_X12_isAim_L4 K4 n9 x1 x2 t3 = some z → gP p l e rm_f_X12_isAim s m args below meth c E A 3 (MQ below ((gqI E (gW E r shM) z) A) args s mc ms A) (gW E r shM) 4 [(0, .ref (r 200)), (1, iv x1), (2, iv x2)] [] t3 := by
  intro n9
  induction n9 with
  | zero => intro x1 x2 t3 h; cases h
  | succ n9 ih =>
    intro x1 x2 t3 h
    unfold f_X12_isAim_L4 at h
    refine g_iload_n X dX12_isAim_4 2 rfl ?_
    refine g_aload_n X dX12_isAim_5 0 rfl ?_
    refine g_getI X fM_37 rfl dX12_isAim_6 h (fun v5 h => ?_)
    refine g_icmp_ge (tgt := 73) X dX12_isAim_9 (by decide) h (fun h => ?_) (fun h => ?_)
    · exact g_sub (lv' := [(1, iv x1)]) [1] rfl (hK4 x1 t3 h)
    · refine g_iload_n X dX12_isAim_12 1 rfl ?_
      refine g_join (J := fun jj => ∀ (j6 : Int) (t7 : St), jj j6 t7 = some z → gP p l e rm_f_X12_isAim s m args below meth c E A 3 (MQ below ((gqI E (gW E r shM) z) A) args s mc ms A) (gW E r shM) 66 [(0, .ref (r 200)), (2, iv x2)] [iv j6] t7) h (fun j6 t7 h => ?_) (fun J8 hJ8 h => ?_)
      · refine g_istore_n (lv' := [(1, iv j6), (0, .ref (r 200)), (2, iv x2)]) X dX12_isAim_66 rfl (by decide) rfl ?_
        refine g_iinc (lv' := [(2, iv (x2 + 1)), (1, iv j6), (0, .ref (r 200))]) X dX12_isAim_67 (k := 2) rfl (by decide) rfl ?_
        refine g_goto (tgt := 4) X dX12_isAim_70 (by decide) ?_
        exact g_sub (lv' := [(0, .ref (r 200)), (1, iv j6), (2, iv (x2 + 1))]) [2, 1, 0] rfl (ih j6 (x2 + 1) t7 h)
      refine g_join (J := fun jj => ∀ (t9 : St), jj  t9 = some z → gP p l e rm_f_X12_isAim s m args below meth c E A 3 (MQ below ((gqI E (gW E r shM) z) A) args s mc ms A) (gW E r shM) 65 [(0, .ref (r 200)), (2, iv x2)] [] t9) h (fun  t9 h => ?_) (fun J10 hJ10 h => ?_)
      · refine g_iconst X dX12_isAim_65 ?_
        exact g_sub (lv' := [(0, .ref (r 200)), (2, iv x2)]) [0, 1] rfl (hJ8 0 t9 h)
      refine g_if_eq (tgt := 65) X dX12_isAim_13 (by decide) h (fun h => ?_) (fun h => ?_)
      · exact g_sub (lv' := [(0, .ref (r 200)), (2, iv x2)]) [0, 2] rfl (hJ10 t3 h)
      · refine g_aload_n X dX12_isAim_16 0 rfl ?_
        refine g_getR X fM_38 rfl dX12_isAim_17 ?_
        refine g_iload_n X dX12_isAim_20 2 rfl ?_
        refine g_iald X aM_38 dX12_isAim_21 h (fun v11 h => ?_)
        refine g_aload_n X dX12_isAim_22 0 rfl ?_
        refine g_getR X fM_47 rfl dX12_isAim_23 ?_
        refine g_iload_n X dX12_isAim_26 2 rfl ?_
        refine g_iald X aM_47 dX12_isAim_27 h (fun v12 h => ?_)
        refine g_icmp_ne (tgt := 65) X dX12_isAim_28 (by decide) h (fun h => ?_) (fun h => ?_)
        · exact g_sub (lv' := [(0, .ref (r 200)), (2, iv x2)]) [0, 2] rfl (hJ10 t3 h)
        · refine g_aload_n X dX12_isAim_31 0 rfl ?_
          refine g_getR X fM_39 rfl dX12_isAim_32 ?_
          refine g_iload_n X dX12_isAim_35 2 rfl ?_
          refine g_iald X aM_39 dX12_isAim_36 h (fun v13 h => ?_)
          refine g_aload_n X dX12_isAim_37 0 rfl ?_
          refine g_getR X fM_48 rfl dX12_isAim_38 ?_
          refine g_iload_n X dX12_isAim_41 2 rfl ?_
          refine g_iald X aM_48 dX12_isAim_42 h (fun v14 h => ?_)
          refine g_icmp_ne (tgt := 65) X dX12_isAim_43 (by decide) h (fun h => ?_) (fun h => ?_)
          · exact g_sub (lv' := [(0, .ref (r 200)), (2, iv x2)]) [0, 2] rfl (hJ10 t3 h)
          · refine g_aload_n X dX12_isAim_46 0 rfl ?_
            refine g_getR X fM_40 rfl dX12_isAim_47 ?_
            refine g_iload_n X dX12_isAim_50 2 rfl ?_
            refine g_iald X aM_40 dX12_isAim_51 h (fun v15 h => ?_)
            refine g_aload_n X dX12_isAim_52 0 rfl ?_
            refine g_getR X fM_49 rfl dX12_isAim_53 ?_
            refine g_iload_n X dX12_isAim_56 2 rfl ?_
            refine g_iald X aM_49 dX12_isAim_57 h (fun v16 h => ?_)
            refine g_icmp_ne (tgt := 65) X dX12_isAim_58 (by decide) h (fun h => ?_) (fun h => ?_)
            · exact g_sub (lv' := [(0, .ref (r 200)), (2, iv x2)]) [0, 2] rfl (hJ10 t3 h)
            · refine g_iconst X dX12_isAim_61 ?_
              refine g_goto (tgt := 66) X dX12_isAim_62 (by decide) ?_
              exact g_sub (lv' := [(0, .ref (r 200)), (2, iv x2)]) [0, 2] rfl (hJ8 1 t3 h)
set_option maxHeartbeats 4000000 in
set_option maxRecDepth 100000 in
theorem b_f_X12_isAim {p : Program} {l : Launch} {e : Env} {s : State} {m : MethodId} {args : Array Value} {below : List Frame} {meth : Method} {c : Code} {E : cE} {A : Nat → Prop} {r : Nat → Nat} {mc ms : Nat} {z : Int × St} {N : Nat} {t : St} (X : gX p s m meth c cX12_isAim 3 (some .boolean) yX12_isAim args E A) (h : f_X12_isAim N t = some z) : gP p l e rm_f_X12_isAim s m args below meth c E A 3 (MQ below ((gqI E (gW E r shM) z) A) args s mc ms A) (gW E r shM) 0 [(0, .ref (r 200))] [] t := by
  unfold f_X12_isAim at h
  refine g_iconst X dX12_isAim_0 ?_
  refine g_istore_n (lv' := [(1, iv 1), (0, .ref (r 200))]) X dX12_isAim_1 rfl (by decide) rfl ?_
  refine g_iconst X dX12_isAim_2 ?_
  refine g_istore_n (lv' := [(2, iv 0), (1, iv 1), (0, .ref (r 200))]) X dX12_isAim_3 rfl (by decide) rfl ?_
  refine g_sub (lv' := [(0, .ref (r 200)), (1, iv 1), (2, iv 0)]) [2, 1, 0] rfl (t_f_X12_isAim_L4 X (fun k17 t18 h => ?_) N 1 0 t h)
  · refine g_iload_n X dX12_isAim_73 0 rfl ?_
    exact g_zret X h dX12_isAim_74
set_option maxHeartbeats 4000000 in
set_option maxRecDepth 100000 in
theorem cp_X12_isAim (l : Launch) (E : cE) (r : Nat → Nat) (N : Nat) (t : St) (z : Int × St) (h : f_X12_isAim N t = some z) : cM l E yX12_isAim cX12_isAim 3 (some .boolean) rm_f_X12_isAim [.ref (r 200)] (gW E r shM t) (gqI E (gW E r shM) z) := by
  refine g_of (w := gW E r shM) (by decide) (Nat.le_of_ble_eq_true rfl) ?_
  intro p e s m below meth c A X
  exact g_sub (lv' := [(0, .ref (r 200))]) [0] rfl (b_f_X12_isAim X h)
theorem yy_X12_isAim : cY yX12_isAim cX12_isAim 3 (some .boolean) 0 := ⟨wdK_X12_isAim, wdZ_RX12, by decide +kernel⟩
theorem yi_X12_isAim : cYi yX12_isAim := ⟨wdN_X12_isAim, wdS_X12_isAim⟩
theorem dX12_set_0 : decode cX12_set 0 = .ok (.aload_n 0, 1) := by decide +kernel
theorem dX12_set_1 : decode cX12_set 1 = .ok (.iload_n 1, 1) := by decide +kernel
theorem dX12_set_2 : decode cX12_set 2 = .ok (.iload_n 2, 1) := by decide +kernel
theorem dX12_set_3 : decode cX12_set 3 = .ok (.invokevirtual 220, 3) := by decide +kernel
theorem dX12_set_6 : decode cX12_set 6 = .ok (.ifCond .ne 5, 3) := by decide +kernel
theorem dX12_set_9 : decode cX12_set 9 = .ok (.iconst 0, 1) := by decide +kernel
theorem dX12_set_10 : decode cX12_set 10 = .ok (.ireturn, 1) := by decide +kernel
theorem dX12_set_11 : decode cX12_set 11 = .ok (.aload_n 0, 1) := by decide +kernel
theorem dX12_set_12 : decode cX12_set 12 = .ok (.invokevirtual 224, 3) := by decide +kernel
theorem dX12_set_15 : decode cX12_set 15 = .ok (.aload_n 0, 1) := by decide +kernel
theorem dX12_set_16 : decode cX12_set 16 = .ok (.iconst 0, 1) := by decide +kernel
theorem dX12_set_17 : decode cX12_set 17 = .ok (.putfield 238, 3) := by decide +kernel
theorem dX12_set_20 : decode cX12_set 20 = .ok (.aload_n 0, 1) := by decide +kernel
theorem dX12_set_21 : decode cX12_set 21 = .ok (.iconst 0, 1) := by decide +kernel
theorem dX12_set_22 : decode cX12_set 22 = .ok (.putfield 241, 3) := by decide +kernel
theorem dX12_set_25 : decode cX12_set 25 = .ok (.aload_n 0, 1) := by decide +kernel
theorem dX12_set_26 : decode cX12_set 26 = .ok (.iconst 0, 1) := by decide +kernel
theorem dX12_set_27 : decode cX12_set 27 = .ok (.putfield 245, 3) := by decide +kernel
theorem dX12_set_30 : decode cX12_set 30 = .ok (.aload_n 0, 1) := by decide +kernel
theorem dX12_set_31 : decode cX12_set 31 = .ok (.lconst 0, 1) := by decide +kernel
theorem dX12_set_32 : decode cX12_set 32 = .ok (.putfield 248, 3) := by decide +kernel
theorem dX12_set_35 : decode cX12_set 35 = .ok (.aload_n 0, 1) := by decide +kernel
theorem dX12_set_36 : decode cX12_set 36 = .ok (.iconst (-1), 1) := by decide +kernel
theorem dX12_set_37 : decode cX12_set 37 = .ok (.putfield 196, 3) := by decide +kernel
theorem dX12_set_40 : decode cX12_set 40 = .ok (.aload_n 0, 1) := by decide +kernel
theorem dX12_set_41 : decode cX12_set 41 = .ok (.iconst 0, 1) := by decide +kernel
theorem dX12_set_42 : decode cX12_set 42 = .ok (.putfield 252, 3) := by decide +kernel
theorem dX12_set_45 : decode cX12_set 45 = .ok (.aload_n 0, 1) := by decide +kernel
theorem dX12_set_46 : decode cX12_set 46 = .ok (.iconst 0, 1) := by decide +kernel
theorem dX12_set_47 : decode cX12_set 47 = .ok (.putfield 255, 3) := by decide +kernel
theorem dX12_set_50 : decode cX12_set 50 = .ok (.iconst 1, 1) := by decide +kernel
theorem dX12_set_51 : decode cX12_set 51 = .ok (.ireturn, 1) := by decide +kernel
abbrev rm_f_X12_set : Room := { frames := 2, cells := 0, slots := 0, locals := 50 }
def f_X12_set (N : Nat) (a0 : Int) (a1 : Int) (t : St) : Option (Int × St) :=
    bdI (f_X12_begins N a0 a1 t) fun v2 t1 =>
    cmpI v2 0 (if v2 = 0 then (boI 0 (some (0, t1)))
    else (bdV (f_X12_marks N t1) fun t3 =>
    lt1 (pI t3 200 59 0) fun t4 =>
    boI 0 (lt1 (pI t4 200 50 0) fun t5 =>
    lt1 (pI t5 200 51 0) fun t6 =>
    lt1 (pL t6 200 100 (0 : Int64)) fun t7 =>
    lt1 (pI t7 200 101 (-1)) fun t8 =>
    lt1 (pI t8 200 42 0) fun t9 =>
    lt1 (pI t9 200 43 0) fun t10 =>
    boI 1 (some (1, t10)))))
set_option maxHeartbeats 4000000 in
set_option maxRecDepth 100000 in
theorem b_f_X12_set {p : Program} {l : Launch} {e : Env} {s : State} {m : MethodId} {args : Array Value} {below : List Frame} {meth : Method} {c : Code} {E : cE} {A : Nat → Prop} {r : Nat → Nat} {mc ms : Nat} {z : Int × St} {N : Nat} {a0 : Int} {a1 : Int} {t : St} (X : gX p s m meth c cX12_set 3 (some .boolean) yX12_set args E A) (h : f_X12_set N a0 a1 t = some z) : gP p l e rm_f_X12_set s m args below meth c E A 3 (MQ below ((gqI E (gW E r shM) z) A) args s mc ms A) (gW E r shM) 0 [(0, .ref (r 200)), (1, iv a0), (2, iv a1)] [] t := by
  unfold f_X12_set at h
  refine g_aload_n X dX12_set_0 0 rfl ?_
  refine g_iload_n X dX12_set_1 1 rfl ?_
  refine g_iload_n X dX12_set_2 2 rfl ?_
  refine g_callI (rest := []) X (fun u9 h9 => cp_X12_begins l E r N a0 a1 t u9 h9) yy_X12_begins yi_X12_begins wdM_RX12_220 0 12 (gW_at oM) rfl rfl rfl (Nat.le_of_ble_eq_true rfl) dX12_set_3 ⟨by decide, by decide⟩ ⟨rfl, rfl⟩ h (fun v2 t1 h => ?_)
  refine g_if_ne (tgt := 11) X dX12_set_6 (by decide) h (fun h => ?_) (fun h => ?_)
  · refine g_aload_n X dX12_set_11 0 rfl ?_
    refine g_callV (rest := []) X (fun u9 h9 => cp_X12_marks l E r N t1 u9 h9) yy_X12_marks yi_X12_marks wdM_RX12_224 0 12 (gW_at oM) rfl rfl rfl (Nat.le_of_ble_eq_true rfl) dX12_set_12 ⟨by decide, by decide⟩ ⟨rfl, rfl⟩ h (fun t3 h => ?_)
    refine g_aload_n X dX12_set_15 0 rfl ?_
    refine g_iconst X dX12_set_16 ?_
    refine g_putI X fM_59w rfl dX12_set_17 h (fun t4 h => ?_)
    refine g_aload_n X dX12_set_20 0 rfl ?_
    refine g_iconst X dX12_set_21 ?_
    refine g_putZ X fM_50w rfl dX12_set_22 h (fun t5 h => ?_)
    refine g_aload_n X dX12_set_25 0 rfl ?_
    refine g_iconst X dX12_set_26 ?_
    refine g_putI X fM_51w rfl dX12_set_27 h (fun t6 h => ?_)
    refine g_aload_n X dX12_set_30 0 rfl ?_
    refine g_lconst (v := 0) X dX12_set_31 (by decide) ?_
    refine g_putL X fM_100w rfl dX12_set_32 h (fun t7 h => ?_)
    refine g_aload_n X dX12_set_35 0 rfl ?_
    refine g_iconst X dX12_set_36 ?_
    refine g_putI X fM_101w rfl dX12_set_37 h (fun t8 h => ?_)
    refine g_aload_n X dX12_set_40 0 rfl ?_
    refine g_iconst X dX12_set_41 ?_
    refine g_putI X fM_42w rfl dX12_set_42 h (fun t9 h => ?_)
    refine g_aload_n X dX12_set_45 0 rfl ?_
    refine g_iconst X dX12_set_46 ?_
    refine g_putI X fM_43w rfl dX12_set_47 h (fun t10 h => ?_)
    refine g_iconst X dX12_set_50 ?_
    exact g_zret X h dX12_set_51
  · refine g_iconst X dX12_set_9 ?_
    exact g_zret X h dX12_set_10
set_option maxHeartbeats 4000000 in
set_option maxRecDepth 100000 in
theorem cp_X12_set (l : Launch) (E : cE) (r : Nat → Nat) (N : Nat) (a0 : Int) (a1 : Int) (t : St) (z : Int × St) (h : f_X12_set N a0 a1 t = some z) : cM l E yX12_set cX12_set 3 (some .boolean) rm_f_X12_set [.ref (r 200), iv a0, iv a1] (gW E r shM t) (gqI E (gW E r shM) z) := by
  refine g_of (w := gW E r shM) (by decide) (Nat.le_of_ble_eq_true rfl) ?_
  intro p e s m below meth c A X
  exact g_sub (lv' := [(0, .ref (r 200)), (1, iv a0), (2, iv a1)]) [0, 1, 2] rfl (b_f_X12_set X h)
theorem yy_X12_set : cY yX12_set cX12_set 3 (some .boolean) 2 := ⟨wdK_X12_set, wdZ_RX12, by decide +kernel⟩
theorem yi_X12_set : cYi yX12_set := ⟨wdN_X12_set, wdS_X12_set⟩
theorem dX12_mark_0 : decode cX12_mark 0 = .ok (.aload_n 0, 1) := by decide +kernel
theorem dX12_mark_1 : decode cX12_mark 1 = .ok (.invokevirtual 224, 3) := by decide +kernel
theorem dX12_mark_4 : decode cX12_mark 4 = .ok (.return_, 1) := by decide +kernel
abbrev rm_f_X12_mark : Room := { frames := 1, cells := 0, slots := 0, locals := 21 }
def f_X12_mark (N : Nat) (t : St) : Option (St) :=
    bdV (f_X12_marks N t) fun t1 =>
    some t1
set_option maxHeartbeats 4000000 in
set_option maxRecDepth 100000 in
theorem b_f_X12_mark {p : Program} {l : Launch} {e : Env} {s : State} {m : MethodId} {args : Array Value} {below : List Frame} {meth : Method} {c : Code} {E : cE} {A : Nat → Prop} {r : Nat → Nat} {mc ms : Nat} {z : St} {N : Nat} {t : St} (X : gX p s m meth c cX12_mark 1 none yX12_mark args E A) (h : f_X12_mark N t = some z) : gP p l e rm_f_X12_mark s m args below meth c E A 1 (MQ below ((gqV E (gW E r shM) z) A) args s mc ms A) (gW E r shM) 0 [(0, .ref (r 200))] [] t := by
  unfold f_X12_mark at h
  refine g_aload_n X dX12_mark_0 0 rfl ?_
  refine g_callV (rest := []) X (fun u9 h9 => cp_X12_marks l E r N t u9 h9) yy_X12_marks yi_X12_marks wdM_RX12_224 0 12 (gW_at oM) rfl rfl rfl (Nat.le_of_ble_eq_true rfl) dX12_mark_1 ⟨by decide, by decide⟩ ⟨rfl, rfl⟩ h (fun t1 h => ?_)
  exact g_vret X h dX12_mark_4
set_option maxHeartbeats 4000000 in
set_option maxRecDepth 100000 in
theorem cp_X12_mark (l : Launch) (E : cE) (r : Nat → Nat) (N : Nat) (t : St) (z : St) (h : f_X12_mark N t = some z) : cM l E yX12_mark cX12_mark 1 none rm_f_X12_mark [.ref (r 200)] (gW E r shM t) (gqV E (gW E r shM) z) := by
  refine g_of (w := gW E r shM) (by decide) (Nat.le_of_ble_eq_true rfl) ?_
  intro p e s m below meth c A X
  exact g_sub (lv' := [(0, .ref (r 200))]) [0] rfl (b_f_X12_mark X h)
theorem yy_X12_mark : cY yX12_mark cX12_mark 1 none 0 := ⟨wdK_X12_mark, wdZ_RX12, by decide +kernel⟩
theorem yi_X12_mark : cYi yX12_mark := ⟨wdN_X12_mark, wdS_X12_mark⟩
theorem dX12_feed_0 : decode cX12_feed 0 = .ok (.aload_n 0, 1) := by decide +kernel
theorem dX12_feed_1 : decode cX12_feed 1 = .ok (.getfield 258, 3) := by decide +kernel
theorem dX12_feed_4 : decode cX12_feed 4 = .ok (.bipush 20, 2) := by decide +kernel
theorem dX12_feed_6 : decode cX12_feed 6 = .ok (.iadd, 1) := by decide +kernel
theorem dX12_feed_7 : decode cX12_feed 7 = .ok (.sipush 4096, 3) := by decide +kernel
theorem dX12_feed_10 : decode cX12_feed 10 = .ok (.if_icmp .le 5, 3) := by decide +kernel
theorem dX12_feed_13 : decode cX12_feed 13 = .ok (.iconst 0, 1) := by decide +kernel
theorem dX12_feed_14 : decode cX12_feed 14 = .ok (.ireturn, 1) := by decide +kernel
theorem dX12_feed_15 : decode cX12_feed 15 = .ok (.iconst 0, 1) := by decide +kernel
theorem dX12_feed_16 : decode cX12_feed 16 = .ok (.istore 6, 2) := by decide +kernel
theorem dX12_feed_18 : decode cX12_feed 18 = .ok (.iload 6, 2) := by decide +kernel
theorem dX12_feed_20 : decode cX12_feed 20 = .ok (.bipush 20, 2) := by decide +kernel
theorem dX12_feed_22 : decode cX12_feed 22 = .ok (.if_icmp .ge 90, 3) := by decide +kernel
theorem dX12_feed_25 : decode cX12_feed 25 = .ok (.iload 6, 2) := by decide +kernel
theorem dX12_feed_27 : decode cX12_feed 27 = .ok (.iconst 4, 1) := by decide +kernel
theorem dX12_feed_28 : decode cX12_feed 28 = .ok (.if_icmp .ge 7, 3) := by decide +kernel
theorem dX12_feed_31 : decode cX12_feed 31 = .ok (.iload_n 1, 1) := by decide +kernel
theorem dX12_feed_32 : decode cX12_feed 32 = .ok (.goto 39, 3) := by decide +kernel
theorem dX12_feed_35 : decode cX12_feed 35 = .ok (.iload 6, 2) := by decide +kernel
theorem dX12_feed_37 : decode cX12_feed 37 = .ok (.bipush 8, 2) := by decide +kernel
theorem dX12_feed_39 : decode cX12_feed 39 = .ok (.if_icmp .ge 7, 3) := by decide +kernel
theorem dX12_feed_42 : decode cX12_feed 42 = .ok (.iload_n 2, 1) := by decide +kernel
theorem dX12_feed_43 : decode cX12_feed 43 = .ok (.goto 28, 3) := by decide +kernel
theorem dX12_feed_46 : decode cX12_feed 46 = .ok (.iload 6, 2) := by decide +kernel
theorem dX12_feed_48 : decode cX12_feed 48 = .ok (.bipush 12, 2) := by decide +kernel
theorem dX12_feed_50 : decode cX12_feed 50 = .ok (.if_icmp .ge 7, 3) := by decide +kernel
theorem dX12_feed_53 : decode cX12_feed 53 = .ok (.iload_n 3, 1) := by decide +kernel
theorem dX12_feed_54 : decode cX12_feed 54 = .ok (.goto 17, 3) := by decide +kernel
theorem dX12_feed_57 : decode cX12_feed 57 = .ok (.iload 6, 2) := by decide +kernel
theorem dX12_feed_59 : decode cX12_feed 59 = .ok (.bipush 16, 2) := by decide +kernel
theorem dX12_feed_61 : decode cX12_feed 61 = .ok (.if_icmp .ge 8, 3) := by decide +kernel
theorem dX12_feed_64 : decode cX12_feed 64 = .ok (.iload 4, 2) := by decide +kernel
theorem dX12_feed_66 : decode cX12_feed 66 = .ok (.goto 5, 3) := by decide +kernel
theorem dX12_feed_69 : decode cX12_feed 69 = .ok (.iload 5, 2) := by decide +kernel
theorem dX12_feed_71 : decode cX12_feed 71 = .ok (.istore 7, 2) := by decide +kernel
theorem dX12_feed_73 : decode cX12_feed 73 = .ok (.aload_n 0, 1) := by decide +kernel
theorem dX12_feed_74 : decode cX12_feed 74 = .ok (.getfield 7, 3) := by decide +kernel
theorem dX12_feed_77 : decode cX12_feed 77 = .ok (.aload_n 0, 1) := by decide +kernel
theorem dX12_feed_78 : decode cX12_feed 78 = .ok (.getfield 258, 3) := by decide +kernel
theorem dX12_feed_81 : decode cX12_feed 81 = .ok (.iload 7, 2) := by decide +kernel
theorem dX12_feed_83 : decode cX12_feed 83 = .ok (.bipush 24, 2) := by decide +kernel
theorem dX12_feed_85 : decode cX12_feed 85 = .ok (.bipush 8, 2) := by decide +kernel
theorem dX12_feed_87 : decode cX12_feed 87 = .ok (.iload 6, 2) := by decide +kernel
theorem dX12_feed_89 : decode cX12_feed 89 = .ok (.iconst 3, 1) := by decide +kernel
theorem dX12_feed_90 : decode cX12_feed 90 = .ok (.iand, 1) := by decide +kernel
theorem dX12_feed_91 : decode cX12_feed 91 = .ok (.imul, 1) := by decide +kernel
theorem dX12_feed_92 : decode cX12_feed 92 = .ok (.isub, 1) := by decide +kernel
theorem dX12_feed_93 : decode cX12_feed 93 = .ok (.ishr, 1) := by decide +kernel
theorem dX12_feed_94 : decode cX12_feed 94 = .ok (.i2b, 1) := by decide +kernel
theorem dX12_feed_95 : decode cX12_feed 95 = .ok (.bastore, 1) := by decide +kernel
theorem dX12_feed_96 : decode cX12_feed 96 = .ok (.aload_n 0, 1) := by decide +kernel
theorem dX12_feed_97 : decode cX12_feed 97 = .ok (.dup, 1) := by decide +kernel
theorem dX12_feed_98 : decode cX12_feed 98 = .ok (.getfield 258, 3) := by decide +kernel
theorem dX12_feed_101 : decode cX12_feed 101 = .ok (.iconst 1, 1) := by decide +kernel
theorem dX12_feed_102 : decode cX12_feed 102 = .ok (.iadd, 1) := by decide +kernel
theorem dX12_feed_103 : decode cX12_feed 103 = .ok (.putfield 258, 3) := by decide +kernel
theorem dX12_feed_106 : decode cX12_feed 106 = .ok (.iinc 6 1, 3) := by decide +kernel
theorem dX12_feed_109 : decode cX12_feed 109 = .ok (.goto (-91), 3) := by decide +kernel
theorem dX12_feed_112 : decode cX12_feed 112 = .ok (.iconst 1, 1) := by decide +kernel
theorem dX12_feed_113 : decode cX12_feed 113 = .ok (.ireturn, 1) := by decide +kernel
abbrev rm_f_X12_feed : Room := { frames := 0, cells := 0, slots := 0, locals := 0 }
def f_X12_feed_L18 (K9 : (St → Option (Int × St))) (y2 : Int) (y3 : Int) (y4 : Int) (y5 : Int) (y6 : Int) : Nat → Int → St → Option (Int × St)
  | 0, _, _ => none
  | n9 + 1, x7, t8 =>
    cmpI x7 20 (if x7 < 20 then (jn1 (fun (j10 : Int) (t11 : St) => lt1 (t11.1 200 1) fun v13 =>
    ixI v13 4096 (lt1 (pI t11 0 v13.toNat (b8 (b8 (ishrZ j10 (24 - (8 * (x7 % 4))))))) fun t14 =>
    lt1 (t14.1 200 1) fun v15 =>
    lt1 (pI t14 200 1 (v15 + 1)) fun t16 =>
    f_X12_feed_L18 K9 y2 y3 y4 y5 y6 n9 (x7 + 1) t16)) fun J12 =>
    cmpI x7 4 (if x7 < 4 then (J12 y2 t8)
    else (cmpI x7 8 (if x7 < 8 then (J12 y3 t8)
    else (cmpI x7 12 (if x7 < 12 then (J12 y4 t8)
    else (cmpI x7 16 (if x7 < 16 then (J12 y5 t8)
    else (J12 y6 t8)))))))))
    else (K9 t8))
def f_X12_feed (N : Nat) (a0 : Int) (a1 : Int) (a2 : Int) (a3 : Int) (a4 : Int) (t : St) : Option (Int × St) :=
    lt1 (t.1 200 1) fun v1 =>
    cmpI (v1 + 20) 4096 (if 4096 < (v1 + 20) then (boI 0 (some (0, t)))
    else (f_X12_feed_L18 (fun (t17 : St) => boI 1 (some (1, t17))) a0 a1 a2 a3 a4 N 0 t))
set_option maxHeartbeats 4000000 in
set_option maxRecDepth 100000 in
theorem t_f_X12_feed_L18 {p : Program} {l : Launch} {e : Env} {s : State} {m : MethodId} {args : Array Value} {below : List Frame} {meth : Method} {c : Code} {E : cE} {A : Nat → Prop} {r : Nat → Nat} {mc ms : Nat} {z : Int × St} {K9 : (St → Option (Int × St))} {y2 : Int} {y3 : Int} {y4 : Int} {y5 : Int} {y6 : Int} (X : gX p s m meth c cX12_feed 8 (some .boolean) yX12_feed args E A) (hK9 : ∀ (t9 : St), K9 t9 = some z → gP p l e rm_f_X12_feed s m args below meth c E A 8 (MQ below ((gqI E (gW E r shM) z) A) args s mc ms A) (gW E r shM) 112 [] [] t9) : ∀ (n9 : Nat) (x7 : Int) (t8 : St), f_X12_feed_L18 K9 y2 y3 y4 y5 y6 n9 x7 t8 = some z → gP p l e rm_f_X12_feed s m args below meth c E A 8 (MQ below ((gqI E (gW E r shM) z) A) args s mc ms A) (gW E r shM) 18 [(0, .ref (r 200)), (1, iv y2), (2, iv y3), (3, iv y4), (4, iv y5), (5, iv y6), (6, iv x7)] [] t8 := by
  intro n9
  induction n9 with
  | zero => intro x7 t8 h; cases h
  | succ n9 ih =>
    intro x7 t8 h
    unfold f_X12_feed_L18 at h
    refine g_iload X dX12_feed_18 6 rfl ?_
    refine g_bipush X dX12_feed_20 (by decide) ?_
    refine g_icmp_ge (tgt := 112) X dX12_feed_22 (by decide) h (fun h => ?_) (fun h => ?_)
    · exact g_sub (lv' := []) [] rfl (hK9 t8 h)
    · refine g_iload X dX12_feed_25 6 rfl ?_
      refine g_iconst X dX12_feed_27 ?_
      refine g_join (J := fun jj => ∀ (j10 : Int) (t11 : St), jj j10 t11 = some z → gP p l e rm_f_X12_feed s m args below meth c E A 8 (MQ below ((gqI E (gW E r shM) z) A) args s mc ms A) (gW E r shM) 71 [(0, .ref (r 200)), (1, iv y2), (2, iv y3), (3, iv y4), (4, iv y5), (5, iv y6), (6, iv x7)] [iv j10] t11) h (fun j10 t11 h => ?_) (fun J12 hJ12 h => ?_)
      · refine g_istore (lv' := [(7, iv j10), (0, .ref (r 200)), (1, iv y2), (2, iv y3), (3, iv y4), (4, iv y5), (5, iv y6), (6, iv x7)]) X dX12_feed_71 (by decide) rfl ?_
        refine g_aload_n X dX12_feed_73 1 rfl ?_
        refine g_getR X fM_0 rfl dX12_feed_74 ?_
        refine g_aload_n X dX12_feed_77 1 rfl ?_
        refine g_getI X fM_1 rfl dX12_feed_78 h (fun v13 h => ?_)
        refine g_iload X dX12_feed_81 0 rfl ?_
        refine g_bipush X dX12_feed_83 (by decide) ?_
        refine g_bipush X dX12_feed_85 (by decide) ?_
        refine g_iload X dX12_feed_87 7 rfl ?_
        refine g_iconst X dX12_feed_89 ?_
        refine g_mask X 2 (by decide) (M := 4) (by decide) (by decide) dX12_feed_90 ?_
        refine g_imul X dX12_feed_91 ?_
        refine g_isub X dX12_feed_92 ?_
        refine g_ishrV X dX12_feed_93 ?_
        refine g_i2b X dX12_feed_94 ?_
        refine g_bast X aM_0 dX12_feed_95 h (fun t14 h => ?_)
        refine g_aload_n X dX12_feed_96 1 rfl ?_
        refine g_dup X rfl dX12_feed_97 ?_
        refine g_getI X fM_1 rfl dX12_feed_98 h (fun v15 h => ?_)
        refine g_iconst X dX12_feed_101 ?_
        refine g_iadd X dX12_feed_102 ?_
        refine g_putI X fM_1w rfl dX12_feed_103 h (fun t16 h => ?_)
        refine g_iinc (lv' := [(6, iv (x7 + 1)), (7, iv j10), (0, .ref (r 200)), (1, iv y2), (2, iv y3), (3, iv y4), (4, iv y5), (5, iv y6)]) X dX12_feed_106 (k := 7) rfl (by decide) rfl ?_
        refine g_goto (tgt := 18) X dX12_feed_109 (by decide) ?_
        exact g_sub (lv' := [(0, .ref (r 200)), (1, iv y2), (2, iv y3), (3, iv y4), (4, iv y5), (5, iv y6), (6, iv (x7 + 1))]) [2, 3, 4, 5, 6, 7, 0] rfl (ih (x7 + 1) t16 h)
      refine g_icmp_ge (tgt := 35) X dX12_feed_28 (by decide) h (fun h => ?_) (fun h => ?_)
      · refine g_iload X dX12_feed_35 6 rfl ?_
        refine g_bipush X dX12_feed_37 (by decide) ?_
        refine g_icmp_ge (tgt := 46) X dX12_feed_39 (by decide) h (fun h => ?_) (fun h => ?_)
        · refine g_iload X dX12_feed_46 6 rfl ?_
          refine g_bipush X dX12_feed_48 (by decide) ?_
          refine g_icmp_ge (tgt := 57) X dX12_feed_50 (by decide) h (fun h => ?_) (fun h => ?_)
          · refine g_iload X dX12_feed_57 6 rfl ?_
            refine g_bipush X dX12_feed_59 (by decide) ?_
            refine g_icmp_ge (tgt := 69) X dX12_feed_61 (by decide) h (fun h => ?_) (fun h => ?_)
            · refine g_iload X dX12_feed_69 5 rfl ?_
              exact g_sub (lv' := [(0, .ref (r 200)), (1, iv y2), (2, iv y3), (3, iv y4), (4, iv y5), (5, iv y6), (6, iv x7)]) [0, 1, 2, 3, 4, 5, 6] rfl (hJ12 y6 t8 h)
            · refine g_iload X dX12_feed_64 4 rfl ?_
              refine g_goto (tgt := 71) X dX12_feed_66 (by decide) ?_
              exact g_sub (lv' := [(0, .ref (r 200)), (1, iv y2), (2, iv y3), (3, iv y4), (4, iv y5), (5, iv y6), (6, iv x7)]) [0, 1, 2, 3, 4, 5, 6] rfl (hJ12 y5 t8 h)
          · refine g_iload_n X dX12_feed_53 3 rfl ?_
            refine g_goto (tgt := 71) X dX12_feed_54 (by decide) ?_
            exact g_sub (lv' := [(0, .ref (r 200)), (1, iv y2), (2, iv y3), (3, iv y4), (4, iv y5), (5, iv y6), (6, iv x7)]) [0, 1, 2, 3, 4, 5, 6] rfl (hJ12 y4 t8 h)
        · refine g_iload_n X dX12_feed_42 2 rfl ?_
          refine g_goto (tgt := 71) X dX12_feed_43 (by decide) ?_
          exact g_sub (lv' := [(0, .ref (r 200)), (1, iv y2), (2, iv y3), (3, iv y4), (4, iv y5), (5, iv y6), (6, iv x7)]) [0, 1, 2, 3, 4, 5, 6] rfl (hJ12 y3 t8 h)
      · refine g_iload_n X dX12_feed_31 1 rfl ?_
        refine g_goto (tgt := 71) X dX12_feed_32 (by decide) ?_
        exact g_sub (lv' := [(0, .ref (r 200)), (1, iv y2), (2, iv y3), (3, iv y4), (4, iv y5), (5, iv y6), (6, iv x7)]) [0, 1, 2, 3, 4, 5, 6] rfl (hJ12 y2 t8 h)
set_option maxHeartbeats 4000000 in
set_option maxRecDepth 100000 in
theorem b_f_X12_feed {p : Program} {l : Launch} {e : Env} {s : State} {m : MethodId} {args : Array Value} {below : List Frame} {meth : Method} {c : Code} {E : cE} {A : Nat → Prop} {r : Nat → Nat} {mc ms : Nat} {z : Int × St} {N : Nat} {a0 : Int} {a1 : Int} {a2 : Int} {a3 : Int} {a4 : Int} {t : St} (X : gX p s m meth c cX12_feed 8 (some .boolean) yX12_feed args E A) (h : f_X12_feed N a0 a1 a2 a3 a4 t = some z) : gP p l e rm_f_X12_feed s m args below meth c E A 8 (MQ below ((gqI E (gW E r shM) z) A) args s mc ms A) (gW E r shM) 0 [(0, .ref (r 200)), (1, iv a0), (2, iv a1), (3, iv a2), (4, iv a3), (5, iv a4)] [] t := by
  unfold f_X12_feed at h
  refine g_aload_n X dX12_feed_0 0 rfl ?_
  refine g_getI X fM_1 rfl dX12_feed_1 h (fun v1 h => ?_)
  refine g_bipush X dX12_feed_4 (by decide) ?_
  refine g_iadd X dX12_feed_6 ?_
  refine g_sipush X dX12_feed_7 (by decide) ?_
  refine g_icmp_le (tgt := 15) X dX12_feed_10 (by decide) h (fun h => ?_) (fun h => ?_)
  · refine g_iconst X dX12_feed_15 ?_
    refine g_istore (lv' := [(6, iv 0), (0, .ref (r 200)), (1, iv a0), (2, iv a1), (3, iv a2), (4, iv a3), (5, iv a4)]) X dX12_feed_16 (by decide) rfl ?_
    refine g_sub (lv' := [(0, .ref (r 200)), (1, iv a0), (2, iv a1), (3, iv a2), (4, iv a3), (5, iv a4), (6, iv 0)]) [1, 2, 3, 4, 5, 6, 0] rfl (t_f_X12_feed_L18 X (fun t17 h => ?_) N 0 t h)
    · refine g_iconst X dX12_feed_112 ?_
      exact g_zret X h dX12_feed_113
  · refine g_iconst X dX12_feed_13 ?_
    exact g_zret X h dX12_feed_14
set_option maxHeartbeats 4000000 in
set_option maxRecDepth 100000 in
theorem cp_X12_feed (l : Launch) (E : cE) (r : Nat → Nat) (N : Nat) (a0 : Int) (a1 : Int) (a2 : Int) (a3 : Int) (a4 : Int) (t : St) (z : Int × St) (h : f_X12_feed N a0 a1 a2 a3 a4 t = some z) : cM l E yX12_feed cX12_feed 8 (some .boolean) rm_f_X12_feed [.ref (r 200), iv a0, iv a1, iv a2, iv a3, iv a4] (gW E r shM t) (gqI E (gW E r shM) z) := by
  refine g_of (w := gW E r shM) (by decide) (Nat.le_of_ble_eq_true rfl) ?_
  intro p e s m below meth c A X
  exact g_sub (lv' := [(0, .ref (r 200)), (1, iv a0), (2, iv a1), (3, iv a2), (4, iv a3), (5, iv a4)]) [0, 1, 2, 3, 4, 5] rfl (b_f_X12_feed X h)
theorem yy_X12_feed : cY yX12_feed cX12_feed 8 (some .boolean) 5 := ⟨wdK_X12_feed, wdZ_RX12, by decide +kernel⟩
theorem yi_X12_feed : cYi yX12_feed := ⟨wdN_X12_feed, wdS_X12_feed⟩
theorem dX12_end_0 : decode cX12_end 0 = .ok (.iload_n 1, 1) := by decide +kernel
theorem dX12_end_1 : decode cX12_end 1 = .ok (.ifCond .lt 11, 3) := by decide +kernel
theorem dX12_end_4 : decode cX12_end 4 = .ok (.iload_n 1, 1) := by decide +kernel
theorem dX12_end_5 : decode cX12_end 5 = .ok (.aload_n 0, 1) := by decide +kernel
theorem dX12_end_6 : decode cX12_end 6 = .ok (.getfield 258, 3) := by decide +kernel
theorem dX12_end_9 : decode cX12_end 9 = .ok (.if_icmp .le 5, 3) := by decide +kernel
theorem dX12_end_12 : decode cX12_end 12 = .ok (.iconst 0, 1) := by decide +kernel
theorem dX12_end_13 : decode cX12_end 13 = .ok (.ireturn, 1) := by decide +kernel
theorem dX12_end_14 : decode cX12_end 14 = .ok (.aload_n 0, 1) := by decide +kernel
theorem dX12_end_15 : decode cX12_end 15 = .ok (.iload_n 1, 1) := by decide +kernel
theorem dX12_end_16 : decode cX12_end 16 = .ok (.putfield 258, 3) := by decide +kernel
theorem dX12_end_19 : decode cX12_end 19 = .ok (.iconst 1, 1) := by decide +kernel
theorem dX12_end_20 : decode cX12_end 20 = .ok (.ireturn, 1) := by decide +kernel
abbrev rm_f_X12_end : Room := { frames := 0, cells := 0, slots := 0, locals := 0 }
def f_X12_end (N : Nat) (a0 : Int) (t : St) : Option (Int × St) :=
    cmpI a0 0 (if a0 < 0 then (boI 0 (some (0, t)))
    else (lt1 (t.1 200 1) fun v1 =>
    cmpI a0 v1 (if v1 < a0 then (boI 0 (some (0, t)))
    else (lt1 (pI t 200 1 a0) fun t2 =>
    boI 1 (some (1, t2))))))
set_option maxHeartbeats 4000000 in
set_option maxRecDepth 100000 in
theorem b_f_X12_end {p : Program} {l : Launch} {e : Env} {s : State} {m : MethodId} {args : Array Value} {below : List Frame} {meth : Method} {c : Code} {E : cE} {A : Nat → Prop} {r : Nat → Nat} {mc ms : Nat} {z : Int × St} {N : Nat} {a0 : Int} {t : St} (X : gX p s m meth c cX12_end 2 (some .boolean) yX12_end args E A) (h : f_X12_end N a0 t = some z) : gP p l e rm_f_X12_end s m args below meth c E A 2 (MQ below ((gqI E (gW E r shM) z) A) args s mc ms A) (gW E r shM) 0 [(0, .ref (r 200)), (1, iv a0)] [] t := by
  unfold f_X12_end at h
  refine g_iload_n X dX12_end_0 1 rfl ?_
  refine g_if_lt (tgt := 12) X dX12_end_1 (by decide) h (fun h => ?_) (fun h => ?_)
  · refine g_iconst X dX12_end_12 ?_
    exact g_zret X h dX12_end_13
  · refine g_iload_n X dX12_end_4 1 rfl ?_
    refine g_aload_n X dX12_end_5 0 rfl ?_
    refine g_getI X fM_1 rfl dX12_end_6 h (fun v1 h => ?_)
    refine g_icmp_le (tgt := 14) X dX12_end_9 (by decide) h (fun h => ?_) (fun h => ?_)
    · refine g_aload_n X dX12_end_14 0 rfl ?_
      refine g_iload_n X dX12_end_15 1 rfl ?_
      refine g_putI X fM_1w rfl dX12_end_16 h (fun t2 h => ?_)
      refine g_iconst X dX12_end_19 ?_
      exact g_zret X h dX12_end_20
    · refine g_iconst X dX12_end_12 ?_
      exact g_zret X h dX12_end_13
set_option maxHeartbeats 4000000 in
set_option maxRecDepth 100000 in
theorem cp_X12_end (l : Launch) (E : cE) (r : Nat → Nat) (N : Nat) (a0 : Int) (t : St) (z : Int × St) (h : f_X12_end N a0 t = some z) : cM l E yX12_end cX12_end 2 (some .boolean) rm_f_X12_end [.ref (r 200), iv a0] (gW E r shM t) (gqI E (gW E r shM) z) := by
  refine g_of (w := gW E r shM) (by decide) (Nat.le_of_ble_eq_true rfl) ?_
  intro p e s m below meth c A X
  exact g_sub (lv' := [(0, .ref (r 200)), (1, iv a0)]) [0, 1] rfl (b_f_X12_end X h)
theorem yy_X12_end : cY yX12_end cX12_end 2 (some .boolean) 1 := ⟨wdK_X12_end, wdZ_RX12, by decide +kernel⟩
theorem yi_X12_end : cYi yX12_end := ⟨wdN_X12_end, wdS_X12_end⟩
theorem dX12_isLetter_0 : decode cX12_isLetter 0 = .ok (.iload_n 0, 1) := by decide +kernel
theorem dX12_isLetter_1 : decode cX12_isLetter 1 = .ok (.bipush 97, 2) := by decide +kernel
theorem dX12_isLetter_3 : decode cX12_isLetter 3 = .ok (.if_icmp .lt 9, 3) := by decide +kernel
theorem dX12_isLetter_6 : decode cX12_isLetter 6 = .ok (.iload_n 0, 1) := by decide +kernel
theorem dX12_isLetter_7 : decode cX12_isLetter 7 = .ok (.bipush 122, 2) := by decide +kernel
theorem dX12_isLetter_9 : decode cX12_isLetter 9 = .ok (.if_icmp .le 15, 3) := by decide +kernel
theorem dX12_isLetter_12 : decode cX12_isLetter 12 = .ok (.iload_n 0, 1) := by decide +kernel
theorem dX12_isLetter_13 : decode cX12_isLetter 13 = .ok (.bipush 65, 2) := by decide +kernel
theorem dX12_isLetter_15 : decode cX12_isLetter 15 = .ok (.if_icmp .lt 13, 3) := by decide +kernel
theorem dX12_isLetter_18 : decode cX12_isLetter 18 = .ok (.iload_n 0, 1) := by decide +kernel
theorem dX12_isLetter_19 : decode cX12_isLetter 19 = .ok (.bipush 90, 2) := by decide +kernel
theorem dX12_isLetter_21 : decode cX12_isLetter 21 = .ok (.if_icmp .gt 7, 3) := by decide +kernel
theorem dX12_isLetter_24 : decode cX12_isLetter 24 = .ok (.iconst 1, 1) := by decide +kernel
theorem dX12_isLetter_25 : decode cX12_isLetter 25 = .ok (.goto 4, 3) := by decide +kernel
theorem dX12_isLetter_28 : decode cX12_isLetter 28 = .ok (.iconst 0, 1) := by decide +kernel
theorem dX12_isLetter_29 : decode cX12_isLetter 29 = .ok (.ireturn, 1) := by decide +kernel
abbrev rm_f_X12_isLetter : Room := { frames := 0, cells := 0, slots := 0, locals := 0 }
def f_X12_isLetter (N : Nat) (a0 : Int) (t : St) : Option (Int × St) :=
    jn1 (fun (t1 : St) => cmpI a0 65 (if a0 < 65 then (boI 0 (some (0, t1)))
    else (cmpI a0 90 (if 90 < a0 then (boI 0 (some (0, t1)))
    else (boI 1 (some (1, t1))))))) fun J2 =>
    cmpI a0 97 (if a0 < 97 then (J2 t)
    else (cmpI a0 122 (if 122 < a0 then (J2 t)
    else (boI 1 (some (1, t))))))
set_option maxHeartbeats 4000000 in
set_option maxRecDepth 100000 in
theorem b_f_X12_isLetter {p : Program} {l : Launch} {e : Env} {s : State} {m : MethodId} {args : Array Value} {below : List Frame} {meth : Method} {c : Code} {E : cE} {A : Nat → Prop} {r : Nat → Nat} {mc ms : Nat} {z : Int × St} {N : Nat} {a0 : Int} {t : St} (X : gX p s m meth c cX12_isLetter 1 (some .boolean) yX12_isLetter args E A) (h : f_X12_isLetter N a0 t = some z) : gP p l e rm_f_X12_isLetter s m args below meth c E A 1 (MQ below ((gqI E (gW E r shM) z) A) args s mc ms A) (gW E r shM) 0 [(0, iv a0)] [] t := by
  unfold f_X12_isLetter at h
  refine g_iload_n X dX12_isLetter_0 0 rfl ?_
  refine g_bipush X dX12_isLetter_1 (by decide) ?_
  refine g_join (J := fun jj => ∀ (t1 : St), jj  t1 = some z → gP p l e rm_f_X12_isLetter s m args below meth c E A 1 (MQ below ((gqI E (gW E r shM) z) A) args s mc ms A) (gW E r shM) 12 [(0, iv a0)] [] t1) h (fun  t1 h => ?_) (fun J2 hJ2 h => ?_)
  · refine g_iload_n X dX12_isLetter_12 0 rfl ?_
    refine g_bipush X dX12_isLetter_13 (by decide) ?_
    refine g_icmp_lt (tgt := 28) X dX12_isLetter_15 (by decide) h (fun h => ?_) (fun h => ?_)
    · refine g_iconst X dX12_isLetter_28 ?_
      exact g_zret X h dX12_isLetter_29
    · refine g_iload_n X dX12_isLetter_18 0 rfl ?_
      refine g_bipush X dX12_isLetter_19 (by decide) ?_
      refine g_icmp_gt (tgt := 28) X dX12_isLetter_21 (by decide) h (fun h => ?_) (fun h => ?_)
      · refine g_iconst X dX12_isLetter_28 ?_
        exact g_zret X h dX12_isLetter_29
      · refine g_iconst X dX12_isLetter_24 ?_
        refine g_goto (tgt := 29) X dX12_isLetter_25 (by decide) ?_
        exact g_zret X h dX12_isLetter_29
  refine g_icmp_lt (tgt := 12) X dX12_isLetter_3 (by decide) h (fun h => ?_) (fun h => ?_)
  · exact g_sub (lv' := [(0, iv a0)]) [0] rfl (hJ2 t h)
  · refine g_iload_n X dX12_isLetter_6 0 rfl ?_
    refine g_bipush X dX12_isLetter_7 (by decide) ?_
    refine g_icmp_le (tgt := 24) X dX12_isLetter_9 (by decide) h (fun h => ?_) (fun h => ?_)
    · refine g_iconst X dX12_isLetter_24 ?_
      refine g_goto (tgt := 29) X dX12_isLetter_25 (by decide) ?_
      exact g_zret X h dX12_isLetter_29
    · exact g_sub (lv' := [(0, iv a0)]) [0] rfl (hJ2 t h)
set_option maxHeartbeats 4000000 in
set_option maxRecDepth 100000 in
theorem cp_X12_isLetter (l : Launch) (E : cE) (r : Nat → Nat) (N : Nat) (a0 : Int) (t : St) (z : Int × St) (h : f_X12_isLetter N a0 t = some z) : cM l E yX12_isLetter cX12_isLetter 1 (some .boolean) rm_f_X12_isLetter [iv a0] (gW E r shM t) (gqI E (gW E r shM) z) := by
  refine g_of (w := gW E r shM) (by decide) (Nat.le_of_ble_eq_true rfl) ?_
  intro p e s m below meth c A X
  exact g_sub (lv' := [(0, iv a0)]) [0] rfl (b_f_X12_isLetter X h)
theorem yy_X12_isLetter : cY yX12_isLetter cX12_isLetter 1 (some .boolean) 1 := ⟨wdK_X12_isLetter, wdZ_RX12, by decide +kernel⟩
theorem dX12_isDigit_0 : decode cX12_isDigit 0 = .ok (.iload_n 0, 1) := by decide +kernel
theorem dX12_isDigit_1 : decode cX12_isDigit 1 = .ok (.bipush 48, 2) := by decide +kernel
theorem dX12_isDigit_3 : decode cX12_isDigit 3 = .ok (.if_icmp .lt 13, 3) := by decide +kernel
theorem dX12_isDigit_6 : decode cX12_isDigit 6 = .ok (.iload_n 0, 1) := by decide +kernel
theorem dX12_isDigit_7 : decode cX12_isDigit 7 = .ok (.bipush 57, 2) := by decide +kernel
theorem dX12_isDigit_9 : decode cX12_isDigit 9 = .ok (.if_icmp .gt 7, 3) := by decide +kernel
theorem dX12_isDigit_12 : decode cX12_isDigit 12 = .ok (.iconst 1, 1) := by decide +kernel
theorem dX12_isDigit_13 : decode cX12_isDigit 13 = .ok (.goto 4, 3) := by decide +kernel
theorem dX12_isDigit_16 : decode cX12_isDigit 16 = .ok (.iconst 0, 1) := by decide +kernel
theorem dX12_isDigit_17 : decode cX12_isDigit 17 = .ok (.ireturn, 1) := by decide +kernel
abbrev rm_f_X12_isDigit : Room := { frames := 0, cells := 0, slots := 0, locals := 0 }
def f_X12_isDigit (N : Nat) (a0 : Int) (t : St) : Option (Int × St) :=
    cmpI a0 48 (if a0 < 48 then (boI 0 (some (0, t)))
    else (cmpI a0 57 (if 57 < a0 then (boI 0 (some (0, t)))
    else (boI 1 (some (1, t))))))
set_option maxHeartbeats 4000000 in
set_option maxRecDepth 100000 in
theorem b_f_X12_isDigit {p : Program} {l : Launch} {e : Env} {s : State} {m : MethodId} {args : Array Value} {below : List Frame} {meth : Method} {c : Code} {E : cE} {A : Nat → Prop} {r : Nat → Nat} {mc ms : Nat} {z : Int × St} {N : Nat} {a0 : Int} {t : St} (X : gX p s m meth c cX12_isDigit 1 (some .boolean) yX12_isDigit args E A) (h : f_X12_isDigit N a0 t = some z) : gP p l e rm_f_X12_isDigit s m args below meth c E A 1 (MQ below ((gqI E (gW E r shM) z) A) args s mc ms A) (gW E r shM) 0 [(0, iv a0)] [] t := by
  unfold f_X12_isDigit at h
  refine g_iload_n X dX12_isDigit_0 0 rfl ?_
  refine g_bipush X dX12_isDigit_1 (by decide) ?_
  refine g_icmp_lt (tgt := 16) X dX12_isDigit_3 (by decide) h (fun h => ?_) (fun h => ?_)
  · refine g_iconst X dX12_isDigit_16 ?_
    exact g_zret X h dX12_isDigit_17
  · refine g_iload_n X dX12_isDigit_6 0 rfl ?_
    refine g_bipush X dX12_isDigit_7 (by decide) ?_
    refine g_icmp_gt (tgt := 16) X dX12_isDigit_9 (by decide) h (fun h => ?_) (fun h => ?_)
    · refine g_iconst X dX12_isDigit_16 ?_
      exact g_zret X h dX12_isDigit_17
    · refine g_iconst X dX12_isDigit_12 ?_
      refine g_goto (tgt := 17) X dX12_isDigit_13 (by decide) ?_
      exact g_zret X h dX12_isDigit_17
set_option maxHeartbeats 4000000 in
set_option maxRecDepth 100000 in
theorem cp_X12_isDigit (l : Launch) (E : cE) (r : Nat → Nat) (N : Nat) (a0 : Int) (t : St) (z : Int × St) (h : f_X12_isDigit N a0 t = some z) : cM l E yX12_isDigit cX12_isDigit 1 (some .boolean) rm_f_X12_isDigit [iv a0] (gW E r shM t) (gqI E (gW E r shM) z) := by
  refine g_of (w := gW E r shM) (by decide) (Nat.le_of_ble_eq_true rfl) ?_
  intro p e s m below meth c A X
  exact g_sub (lv' := [(0, iv a0)]) [0] rfl (b_f_X12_isDigit X h)
theorem yy_X12_isDigit : cY yX12_isDigit cX12_isDigit 1 (some .boolean) 1 := ⟨wdK_X12_isDigit, wdZ_RX12, by decide +kernel⟩
theorem dX12_byteAt_0 : decode cX12_byteAt 0 = .ok (.iload_n 1, 1) := by decide +kernel
theorem dX12_byteAt_1 : decode cX12_byteAt 1 = .ok (.aload_n 0, 1) := by decide +kernel
theorem dX12_byteAt_2 : decode cX12_byteAt 2 = .ok (.getfield 261, 3) := by decide +kernel
theorem dX12_byteAt_5 : decode cX12_byteAt 5 = .ok (.if_icmp .ge 16, 3) := by decide +kernel
theorem dX12_byteAt_8 : decode cX12_byteAt 8 = .ok (.aload_n 0, 1) := by decide +kernel
theorem dX12_byteAt_9 : decode cX12_byteAt 9 = .ok (.getfield 7, 3) := by decide +kernel
theorem dX12_byteAt_12 : decode cX12_byteAt 12 = .ok (.iload_n 1, 1) := by decide +kernel
theorem dX12_byteAt_13 : decode cX12_byteAt 13 = .ok (.baload, 1) := by decide +kernel
theorem dX12_byteAt_14 : decode cX12_byteAt 14 = .ok (.sipush 255, 3) := by decide +kernel
theorem dX12_byteAt_17 : decode cX12_byteAt 17 = .ok (.iand, 1) := by decide +kernel
theorem dX12_byteAt_18 : decode cX12_byteAt 18 = .ok (.goto 4, 3) := by decide +kernel
theorem dX12_byteAt_21 : decode cX12_byteAt 21 = .ok (.iconst (-1), 1) := by decide +kernel
theorem dX12_byteAt_22 : decode cX12_byteAt 22 = .ok (.ireturn, 1) := by decide +kernel
abbrev rm_f_X12_byteAt : Room := { frames := 0, cells := 0, slots := 0, locals := 0 }
def f_X12_byteAt (N : Nat) (a0 : Int) (t : St) : Option (Int × St) :=
    lt1 (t.1 200 7) fun v1 =>
    cmpI a0 v1 (if a0 < v1 then (ixI a0 4096 (lt1 (t.1 0 a0.toNat) fun v2 =>
    some (v2 % 256, t)))
    else (some ((-1), t)))
set_option maxHeartbeats 4000000 in
set_option maxRecDepth 100000 in
theorem b_f_X12_byteAt {p : Program} {l : Launch} {e : Env} {s : State} {m : MethodId} {args : Array Value} {below : List Frame} {meth : Method} {c : Code} {E : cE} {A : Nat → Prop} {r : Nat → Nat} {mc ms : Nat} {z : Int × St} {N : Nat} {a0 : Int} {t : St} (X : gX p s m meth c cX12_byteAt 2 (some .int) yX12_byteAt args E A) (h : f_X12_byteAt N a0 t = some z) : gP p l e rm_f_X12_byteAt s m args below meth c E A 2 (MQ below ((gqI E (gW E r shM) z) A) args s mc ms A) (gW E r shM) 0 [(0, .ref (r 200)), (1, iv a0)] [] t := by
  unfold f_X12_byteAt at h
  refine g_iload_n X dX12_byteAt_0 1 rfl ?_
  refine g_aload_n X dX12_byteAt_1 0 rfl ?_
  refine g_getI X fM_7 rfl dX12_byteAt_2 h (fun v1 h => ?_)
  refine g_icmp_ge (tgt := 21) X dX12_byteAt_5 (by decide) h (fun h => ?_) (fun h => ?_)
  · refine g_iconst X dX12_byteAt_21 ?_
    exact g_iret X h dX12_byteAt_22
  · refine g_aload_n X dX12_byteAt_8 0 rfl ?_
    refine g_getR X fM_0 rfl dX12_byteAt_9 ?_
    refine g_iload_n X dX12_byteAt_12 1 rfl ?_
    refine g_bald X aM_0 dX12_byteAt_13 h (fun v2 h => ?_)
    refine g_sipush X dX12_byteAt_14 (by decide) ?_
    refine g_mask X 8 (by decide) (M := 256) (by decide) (by decide) dX12_byteAt_17 ?_
    refine g_goto (tgt := 22) X dX12_byteAt_18 (by decide) ?_
    exact g_iret X h dX12_byteAt_22
set_option maxHeartbeats 4000000 in
set_option maxRecDepth 100000 in
theorem cp_X12_byteAt (l : Launch) (E : cE) (r : Nat → Nat) (N : Nat) (a0 : Int) (t : St) (z : Int × St) (h : f_X12_byteAt N a0 t = some z) : cM l E yX12_byteAt cX12_byteAt 2 (some .int) rm_f_X12_byteAt [.ref (r 200), iv a0] (gW E r shM t) (gqI E (gW E r shM) z) := by
  refine g_of (w := gW E r shM) (by decide) (Nat.le_of_ble_eq_true rfl) ?_
  intro p e s m below meth c A X
  exact g_sub (lv' := [(0, .ref (r 200)), (1, iv a0)]) [0, 1] rfl (b_f_X12_byteAt X h)
theorem yy_X12_byteAt : cY yX12_byteAt cX12_byteAt 2 (some .int) 1 := ⟨wdK_X12_byteAt, wdZ_RX12, by decide +kernel⟩
theorem yi_X12_byteAt : cYi yX12_byteAt := ⟨wdN_X12_byteAt, wdS_X12_byteAt⟩
theorem dX12_isBlank_0 : decode cX12_isBlank 0 = .ok (.iload_n 0, 1) := by decide +kernel
theorem dX12_isBlank_1 : decode cX12_isBlank 1 = .ok (.bipush 9, 2) := by decide +kernel
theorem dX12_isBlank_3 : decode cX12_isBlank 3 = .ok (.if_icmp .eq 21, 3) := by decide +kernel
theorem dX12_isBlank_6 : decode cX12_isBlank 6 = .ok (.iload_n 0, 1) := by decide +kernel
theorem dX12_isBlank_7 : decode cX12_isBlank 7 = .ok (.bipush 10, 2) := by decide +kernel
theorem dX12_isBlank_9 : decode cX12_isBlank 9 = .ok (.if_icmp .eq 15, 3) := by decide +kernel
theorem dX12_isBlank_12 : decode cX12_isBlank 12 = .ok (.iload_n 0, 1) := by decide +kernel
theorem dX12_isBlank_13 : decode cX12_isBlank 13 = .ok (.bipush 13, 2) := by decide +kernel
theorem dX12_isBlank_15 : decode cX12_isBlank 15 = .ok (.if_icmp .eq 9, 3) := by decide +kernel
theorem dX12_isBlank_18 : decode cX12_isBlank 18 = .ok (.iload_n 0, 1) := by decide +kernel
theorem dX12_isBlank_19 : decode cX12_isBlank 19 = .ok (.bipush 32, 2) := by decide +kernel
theorem dX12_isBlank_21 : decode cX12_isBlank 21 = .ok (.if_icmp .ne 7, 3) := by decide +kernel
theorem dX12_isBlank_24 : decode cX12_isBlank 24 = .ok (.iconst 1, 1) := by decide +kernel
theorem dX12_isBlank_25 : decode cX12_isBlank 25 = .ok (.goto 4, 3) := by decide +kernel
theorem dX12_isBlank_28 : decode cX12_isBlank 28 = .ok (.iconst 0, 1) := by decide +kernel
theorem dX12_isBlank_29 : decode cX12_isBlank 29 = .ok (.ireturn, 1) := by decide +kernel
abbrev rm_f_X12_isBlank : Room := { frames := 0, cells := 0, slots := 0, locals := 0 }
def f_X12_isBlank (N : Nat) (a0 : Int) (t : St) : Option (Int × St) :=
    cmpI a0 9 (if a0 = 9 then (boI 1 (some (1, t)))
    else (cmpI a0 10 (if a0 = 10 then (boI 1 (some (1, t)))
    else (cmpI a0 13 (if a0 = 13 then (boI 1 (some (1, t)))
    else (cmpI a0 32 (if a0 = 32 then (boI 1 (some (1, t)))
    else (boI 0 (some (0, t))))))))))
set_option maxHeartbeats 4000000 in
set_option maxRecDepth 100000 in
theorem b_f_X12_isBlank {p : Program} {l : Launch} {e : Env} {s : State} {m : MethodId} {args : Array Value} {below : List Frame} {meth : Method} {c : Code} {E : cE} {A : Nat → Prop} {r : Nat → Nat} {mc ms : Nat} {z : Int × St} {N : Nat} {a0 : Int} {t : St} (X : gX p s m meth c cX12_isBlank 1 (some .boolean) yX12_isBlank args E A) (h : f_X12_isBlank N a0 t = some z) : gP p l e rm_f_X12_isBlank s m args below meth c E A 1 (MQ below ((gqI E (gW E r shM) z) A) args s mc ms A) (gW E r shM) 0 [(0, iv a0)] [] t := by
  unfold f_X12_isBlank at h
  refine g_iload_n X dX12_isBlank_0 0 rfl ?_
  refine g_bipush X dX12_isBlank_1 (by decide) ?_
  refine g_icmp_eq (tgt := 24) X dX12_isBlank_3 (by decide) h (fun h => ?_) (fun h => ?_)
  · refine g_iconst X dX12_isBlank_24 ?_
    refine g_goto (tgt := 29) X dX12_isBlank_25 (by decide) ?_
    exact g_zret X h dX12_isBlank_29
  · refine g_iload_n X dX12_isBlank_6 0 rfl ?_
    refine g_bipush X dX12_isBlank_7 (by decide) ?_
    refine g_icmp_eq (tgt := 24) X dX12_isBlank_9 (by decide) h (fun h => ?_) (fun h => ?_)
    · refine g_iconst X dX12_isBlank_24 ?_
      refine g_goto (tgt := 29) X dX12_isBlank_25 (by decide) ?_
      exact g_zret X h dX12_isBlank_29
    · refine g_iload_n X dX12_isBlank_12 0 rfl ?_
      refine g_bipush X dX12_isBlank_13 (by decide) ?_
      refine g_icmp_eq (tgt := 24) X dX12_isBlank_15 (by decide) h (fun h => ?_) (fun h => ?_)
      · refine g_iconst X dX12_isBlank_24 ?_
        refine g_goto (tgt := 29) X dX12_isBlank_25 (by decide) ?_
        exact g_zret X h dX12_isBlank_29
      · refine g_iload_n X dX12_isBlank_18 0 rfl ?_
        refine g_bipush X dX12_isBlank_19 (by decide) ?_
        refine g_icmp_ne (tgt := 28) X dX12_isBlank_21 (by decide) h (fun h => ?_) (fun h => ?_)
        · refine g_iconst X dX12_isBlank_28 ?_
          exact g_zret X h dX12_isBlank_29
        · refine g_iconst X dX12_isBlank_24 ?_
          refine g_goto (tgt := 29) X dX12_isBlank_25 (by decide) ?_
          exact g_zret X h dX12_isBlank_29
set_option maxHeartbeats 4000000 in
set_option maxRecDepth 100000 in
theorem cp_X12_isBlank (l : Launch) (E : cE) (r : Nat → Nat) (N : Nat) (a0 : Int) (t : St) (z : Int × St) (h : f_X12_isBlank N a0 t = some z) : cM l E yX12_isBlank cX12_isBlank 1 (some .boolean) rm_f_X12_isBlank [iv a0] (gW E r shM t) (gqI E (gW E r shM) z) := by
  refine g_of (w := gW E r shM) (by decide) (Nat.le_of_ble_eq_true rfl) ?_
  intro p e s m below meth c A X
  exact g_sub (lv' := [(0, iv a0)]) [0] rfl (b_f_X12_isBlank X h)
theorem yy_X12_isBlank : cY yX12_isBlank cX12_isBlank 1 (some .boolean) 1 := ⟨wdK_X12_isBlank, wdZ_RX12, by decide +kernel⟩
theorem dX12_wrong_0 : decode cX12_wrong 0 = .ok (.aload_n 0, 1) := by decide +kernel
theorem dX12_wrong_1 : decode cX12_wrong 1 = .ok (.iload_n 1, 1) := by decide +kernel
theorem dX12_wrong_2 : decode cX12_wrong 2 = .ok (.putfield 308, 3) := by decide +kernel
theorem dX12_wrong_5 : decode cX12_wrong 5 = .ok (.iconst 0, 1) := by decide +kernel
theorem dX12_wrong_6 : decode cX12_wrong 6 = .ok (.ireturn, 1) := by decide +kernel
abbrev rm_f_X12_wrong : Room := { frames := 0, cells := 0, slots := 0, locals := 0 }
def f_X12_wrong (N : Nat) (a0 : Int) (t : St) : Option (Int × St) :=
    lt1 (pI t 200 8 a0) fun t1 =>
    boI 0 (some (0, t1))
set_option maxHeartbeats 4000000 in
set_option maxRecDepth 100000 in
theorem b_f_X12_wrong {p : Program} {l : Launch} {e : Env} {s : State} {m : MethodId} {args : Array Value} {below : List Frame} {meth : Method} {c : Code} {E : cE} {A : Nat → Prop} {r : Nat → Nat} {mc ms : Nat} {z : Int × St} {N : Nat} {a0 : Int} {t : St} (X : gX p s m meth c cX12_wrong 2 (some .boolean) yX12_wrong args E A) (h : f_X12_wrong N a0 t = some z) : gP p l e rm_f_X12_wrong s m args below meth c E A 2 (MQ below ((gqI E (gW E r shM) z) A) args s mc ms A) (gW E r shM) 0 [(0, .ref (r 200)), (1, iv a0)] [] t := by
  unfold f_X12_wrong at h
  refine g_aload_n X dX12_wrong_0 0 rfl ?_
  refine g_iload_n X dX12_wrong_1 1 rfl ?_
  refine g_putI X fM_8w rfl dX12_wrong_2 h (fun t1 h => ?_)
  refine g_iconst X dX12_wrong_5 ?_
  exact g_zret X h dX12_wrong_6
set_option maxHeartbeats 4000000 in
set_option maxRecDepth 100000 in
theorem cp_X12_wrong (l : Launch) (E : cE) (r : Nat → Nat) (N : Nat) (a0 : Int) (t : St) (z : Int × St) (h : f_X12_wrong N a0 t = some z) : cM l E yX12_wrong cX12_wrong 2 (some .boolean) rm_f_X12_wrong [.ref (r 200), iv a0] (gW E r shM t) (gqI E (gW E r shM) z) := by
  refine g_of (w := gW E r shM) (by decide) (Nat.le_of_ble_eq_true rfl) ?_
  intro p e s m below meth c A X
  exact g_sub (lv' := [(0, .ref (r 200)), (1, iv a0)]) [0, 1] rfl (b_f_X12_wrong X h)
theorem yy_X12_wrong : cY yX12_wrong cX12_wrong 2 (some .boolean) 1 := ⟨wdK_X12_wrong, wdZ_RX12, by decide +kernel⟩
theorem yi_X12_wrong : cYi yX12_wrong := ⟨wdN_X12_wrong, wdS_X12_wrong⟩
theorem dX12_isKey_0 : decode cX12_isKey 0 = .ok (.aload_n 0, 1) := by decide +kernel
theorem dX12_isKey_1 : decode cX12_isKey 1 = .ok (.getfield 278, 3) := by decide +kernel
theorem dX12_isKey_4 : decode cX12_isKey 4 = .ok (.iconst 1, 1) := by decide +kernel
theorem dX12_isKey_5 : decode cX12_isKey 5 = .ok (.if_icmp .ne 15, 3) := by decide +kernel
theorem dX12_isKey_8 : decode cX12_isKey 8 = .ok (.aload_n 0, 1) := by decide +kernel
theorem dX12_isKey_9 : decode cX12_isKey 9 = .ok (.getfield 294, 3) := by decide +kernel
theorem dX12_isKey_12 : decode cX12_isKey 12 = .ok (.iload_n 1, 1) := by decide +kernel
theorem dX12_isKey_13 : decode cX12_isKey 13 = .ok (.if_icmp .ne 7, 3) := by decide +kernel
theorem dX12_isKey_16 : decode cX12_isKey 16 = .ok (.iconst 1, 1) := by decide +kernel
theorem dX12_isKey_17 : decode cX12_isKey 17 = .ok (.goto 4, 3) := by decide +kernel
theorem dX12_isKey_20 : decode cX12_isKey 20 = .ok (.iconst 0, 1) := by decide +kernel
theorem dX12_isKey_21 : decode cX12_isKey 21 = .ok (.ireturn, 1) := by decide +kernel
abbrev rm_f_X12_isKey : Room := { frames := 0, cells := 0, slots := 0, locals := 0 }
def f_X12_isKey (N : Nat) (a0 : Int) (t : St) : Option (Int × St) :=
    lt1 (t.1 200 3) fun v1 =>
    cmpI v1 1 (if v1 = 1 then (lt1 (t.1 200 5) fun v2 =>
    cmpI v2 a0 (if v2 = a0 then (boI 1 (some (1, t)))
    else (boI 0 (some (0, t)))))
    else (boI 0 (some (0, t))))
set_option maxHeartbeats 4000000 in
set_option maxRecDepth 100000 in
theorem b_f_X12_isKey {p : Program} {l : Launch} {e : Env} {s : State} {m : MethodId} {args : Array Value} {below : List Frame} {meth : Method} {c : Code} {E : cE} {A : Nat → Prop} {r : Nat → Nat} {mc ms : Nat} {z : Int × St} {N : Nat} {a0 : Int} {t : St} (X : gX p s m meth c cX12_isKey 2 (some .boolean) yX12_isKey args E A) (h : f_X12_isKey N a0 t = some z) : gP p l e rm_f_X12_isKey s m args below meth c E A 2 (MQ below ((gqI E (gW E r shM) z) A) args s mc ms A) (gW E r shM) 0 [(0, .ref (r 200)), (1, iv a0)] [] t := by
  unfold f_X12_isKey at h
  refine g_aload_n X dX12_isKey_0 0 rfl ?_
  refine g_getI X fM_3 rfl dX12_isKey_1 h (fun v1 h => ?_)
  refine g_iconst X dX12_isKey_4 ?_
  refine g_icmp_ne (tgt := 20) X dX12_isKey_5 (by decide) h (fun h => ?_) (fun h => ?_)
  · refine g_iconst X dX12_isKey_20 ?_
    exact g_zret X h dX12_isKey_21
  · refine g_aload_n X dX12_isKey_8 0 rfl ?_
    refine g_getI X fM_5 rfl dX12_isKey_9 h (fun v2 h => ?_)
    refine g_iload_n X dX12_isKey_12 1 rfl ?_
    refine g_icmp_ne (tgt := 20) X dX12_isKey_13 (by decide) h (fun h => ?_) (fun h => ?_)
    · refine g_iconst X dX12_isKey_20 ?_
      exact g_zret X h dX12_isKey_21
    · refine g_iconst X dX12_isKey_16 ?_
      refine g_goto (tgt := 21) X dX12_isKey_17 (by decide) ?_
      exact g_zret X h dX12_isKey_21
set_option maxHeartbeats 4000000 in
set_option maxRecDepth 100000 in
theorem cp_X12_isKey (l : Launch) (E : cE) (r : Nat → Nat) (N : Nat) (a0 : Int) (t : St) (z : Int × St) (h : f_X12_isKey N a0 t = some z) : cM l E yX12_isKey cX12_isKey 2 (some .boolean) rm_f_X12_isKey [.ref (r 200), iv a0] (gW E r shM t) (gqI E (gW E r shM) z) := by
  refine g_of (w := gW E r shM) (by decide) (Nat.le_of_ble_eq_true rfl) ?_
  intro p e s m below meth c A X
  exact g_sub (lv' := [(0, .ref (r 200)), (1, iv a0)]) [0, 1] rfl (b_f_X12_isKey X h)
theorem yy_X12_isKey : cY yX12_isKey cX12_isKey 2 (some .boolean) 1 := ⟨wdK_X12_isKey, wdZ_RX12, by decide +kernel⟩
theorem yi_X12_isKey : cYi yX12_isKey := ⟨wdN_X12_isKey, wdS_X12_isKey⟩
theorem dX12_isSign_0 : decode cX12_isSign 0 = .ok (.aload_n 0, 1) := by decide +kernel
theorem dX12_isSign_1 : decode cX12_isSign 1 = .ok (.getfield 278, 3) := by decide +kernel
theorem dX12_isSign_4 : decode cX12_isSign 4 = .ok (.iconst 4, 1) := by decide +kernel
theorem dX12_isSign_5 : decode cX12_isSign 5 = .ok (.if_icmp .ne 15, 3) := by decide +kernel
theorem dX12_isSign_8 : decode cX12_isSign 8 = .ok (.aload_n 0, 1) := by decide +kernel
theorem dX12_isSign_9 : decode cX12_isSign 9 = .ok (.getfield 294, 3) := by decide +kernel
theorem dX12_isSign_12 : decode cX12_isSign 12 = .ok (.iload_n 1, 1) := by decide +kernel
theorem dX12_isSign_13 : decode cX12_isSign 13 = .ok (.if_icmp .ne 7, 3) := by decide +kernel
theorem dX12_isSign_16 : decode cX12_isSign 16 = .ok (.iconst 1, 1) := by decide +kernel
theorem dX12_isSign_17 : decode cX12_isSign 17 = .ok (.goto 4, 3) := by decide +kernel
theorem dX12_isSign_20 : decode cX12_isSign 20 = .ok (.iconst 0, 1) := by decide +kernel
theorem dX12_isSign_21 : decode cX12_isSign 21 = .ok (.ireturn, 1) := by decide +kernel
abbrev rm_f_X12_isSign : Room := { frames := 0, cells := 0, slots := 0, locals := 0 }
def f_X12_isSign (N : Nat) (a0 : Int) (t : St) : Option (Int × St) :=
    lt1 (t.1 200 3) fun v1 =>
    cmpI v1 4 (if v1 = 4 then (lt1 (t.1 200 5) fun v2 =>
    cmpI v2 a0 (if v2 = a0 then (boI 1 (some (1, t)))
    else (boI 0 (some (0, t)))))
    else (boI 0 (some (0, t))))
set_option maxHeartbeats 4000000 in
set_option maxRecDepth 100000 in
theorem b_f_X12_isSign {p : Program} {l : Launch} {e : Env} {s : State} {m : MethodId} {args : Array Value} {below : List Frame} {meth : Method} {c : Code} {E : cE} {A : Nat → Prop} {r : Nat → Nat} {mc ms : Nat} {z : Int × St} {N : Nat} {a0 : Int} {t : St} (X : gX p s m meth c cX12_isSign 2 (some .boolean) yX12_isSign args E A) (h : f_X12_isSign N a0 t = some z) : gP p l e rm_f_X12_isSign s m args below meth c E A 2 (MQ below ((gqI E (gW E r shM) z) A) args s mc ms A) (gW E r shM) 0 [(0, .ref (r 200)), (1, iv a0)] [] t := by
  unfold f_X12_isSign at h
  refine g_aload_n X dX12_isSign_0 0 rfl ?_
  refine g_getI X fM_3 rfl dX12_isSign_1 h (fun v1 h => ?_)
  refine g_iconst X dX12_isSign_4 ?_
  refine g_icmp_ne (tgt := 20) X dX12_isSign_5 (by decide) h (fun h => ?_) (fun h => ?_)
  · refine g_iconst X dX12_isSign_20 ?_
    exact g_zret X h dX12_isSign_21
  · refine g_aload_n X dX12_isSign_8 0 rfl ?_
    refine g_getI X fM_5 rfl dX12_isSign_9 h (fun v2 h => ?_)
    refine g_iload_n X dX12_isSign_12 1 rfl ?_
    refine g_icmp_ne (tgt := 20) X dX12_isSign_13 (by decide) h (fun h => ?_) (fun h => ?_)
    · refine g_iconst X dX12_isSign_20 ?_
      exact g_zret X h dX12_isSign_21
    · refine g_iconst X dX12_isSign_16 ?_
      refine g_goto (tgt := 21) X dX12_isSign_17 (by decide) ?_
      exact g_zret X h dX12_isSign_21
set_option maxHeartbeats 4000000 in
set_option maxRecDepth 100000 in
theorem cp_X12_isSign (l : Launch) (E : cE) (r : Nat → Nat) (N : Nat) (a0 : Int) (t : St) (z : Int × St) (h : f_X12_isSign N a0 t = some z) : cM l E yX12_isSign cX12_isSign 2 (some .boolean) rm_f_X12_isSign [.ref (r 200), iv a0] (gW E r shM t) (gqI E (gW E r shM) z) := by
  refine g_of (w := gW E r shM) (by decide) (Nat.le_of_ble_eq_true rfl) ?_
  intro p e s m below meth c A X
  exact g_sub (lv' := [(0, .ref (r 200)), (1, iv a0)]) [0, 1] rfl (b_f_X12_isSign X h)
theorem yy_X12_isSign : cY yX12_isSign cX12_isSign 2 (some .boolean) 1 := ⟨wdK_X12_isSign, wdZ_RX12, by decide +kernel⟩
theorem yi_X12_isSign : cYi yX12_isSign := ⟨wdN_X12_isSign, wdS_X12_isSign⟩
theorem dX12_nameAt_0 : decode cX12_nameAt 0 = .ok (.iconst 0, 1) := by decide +kernel
theorem dX12_nameAt_1 : decode cX12_nameAt 1 = .ok (.istore_n 1, 1) := by decide +kernel
theorem dX12_nameAt_2 : decode cX12_nameAt 2 = .ok (.iload_n 1, 1) := by decide +kernel
theorem dX12_nameAt_3 : decode cX12_nameAt 3 = .ok (.aload_n 0, 1) := by decide +kernel
theorem dX12_nameAt_4 : decode cX12_nameAt 4 = .ok (.getfield 347, 3) := by decide +kernel
theorem dX12_nameAt_7 : decode cX12_nameAt 7 = .ok (.if_icmp .ge 85, 3) := by decide +kernel
theorem dX12_nameAt_10 : decode cX12_nameAt 10 = .ok (.aload_n 0, 1) := by decide +kernel
theorem dX12_nameAt_11 : decode cX12_nameAt 11 = .ok (.getfield 16, 3) := by decide +kernel
theorem dX12_nameAt_14 : decode cX12_nameAt 14 = .ok (.iload_n 1, 1) := by decide +kernel
theorem dX12_nameAt_15 : decode cX12_nameAt 15 = .ok (.iaload, 1) := by decide +kernel
theorem dX12_nameAt_16 : decode cX12_nameAt 16 = .ok (.aload_n 0, 1) := by decide +kernel
theorem dX12_nameAt_17 : decode cX12_nameAt 17 = .ok (.getfield 287, 3) := by decide +kernel
theorem dX12_nameAt_20 : decode cX12_nameAt 20 = .ok (.if_icmp .ne 7, 3) := by decide +kernel
theorem dX12_nameAt_23 : decode cX12_nameAt 23 = .ok (.iconst 1, 1) := by decide +kernel
theorem dX12_nameAt_24 : decode cX12_nameAt 24 = .ok (.goto 4, 3) := by decide +kernel
theorem dX12_nameAt_27 : decode cX12_nameAt 27 = .ok (.iconst 0, 1) := by decide +kernel
theorem dX12_nameAt_28 : decode cX12_nameAt 28 = .ok (.istore_n 2, 1) := by decide +kernel
theorem dX12_nameAt_29 : decode cX12_nameAt 29 = .ok (.iconst 0, 1) := by decide +kernel
theorem dX12_nameAt_30 : decode cX12_nameAt 30 = .ok (.istore_n 3, 1) := by decide +kernel
theorem dX12_nameAt_31 : decode cX12_nameAt 31 = .ok (.iload_n 3, 1) := by decide +kernel
theorem dX12_nameAt_32 : decode cX12_nameAt 32 = .ok (.aload_n 0, 1) := by decide +kernel
theorem dX12_nameAt_33 : decode cX12_nameAt 33 = .ok (.getfield 287, 3) := by decide +kernel
theorem dX12_nameAt_36 : decode cX12_nameAt 36 = .ok (.if_icmp .ge 44, 3) := by decide +kernel
theorem dX12_nameAt_39 : decode cX12_nameAt 39 = .ok (.iload_n 2, 1) := by decide +kernel
theorem dX12_nameAt_40 : decode cX12_nameAt 40 = .ok (.ifCond .eq 40, 3) := by decide +kernel
theorem dX12_nameAt_43 : decode cX12_nameAt 43 = .ok (.aload_n 0, 1) := by decide +kernel
theorem dX12_nameAt_44 : decode cX12_nameAt 44 = .ok (.getfield 13, 3) := by decide +kernel
theorem dX12_nameAt_47 : decode cX12_nameAt 47 = .ok (.bipush 24, 2) := by decide +kernel
theorem dX12_nameAt_49 : decode cX12_nameAt 49 = .ok (.iload_n 1, 1) := by decide +kernel
theorem dX12_nameAt_50 : decode cX12_nameAt 50 = .ok (.imul, 1) := by decide +kernel
theorem dX12_nameAt_51 : decode cX12_nameAt 51 = .ok (.iload_n 3, 1) := by decide +kernel
theorem dX12_nameAt_52 : decode cX12_nameAt 52 = .ok (.iadd, 1) := by decide +kernel
theorem dX12_nameAt_53 : decode cX12_nameAt 53 = .ok (.baload, 1) := by decide +kernel
theorem dX12_nameAt_54 : decode cX12_nameAt 54 = .ok (.aload_n 0, 1) := by decide +kernel
theorem dX12_nameAt_55 : decode cX12_nameAt 55 = .ok (.getfield 7, 3) := by decide +kernel
theorem dX12_nameAt_58 : decode cX12_nameAt 58 = .ok (.aload_n 0, 1) := by decide +kernel
theorem dX12_nameAt_59 : decode cX12_nameAt 59 = .ok (.getfield 275, 3) := by decide +kernel
theorem dX12_nameAt_62 : decode cX12_nameAt 62 = .ok (.iload_n 3, 1) := by decide +kernel
theorem dX12_nameAt_63 : decode cX12_nameAt 63 = .ok (.iadd, 1) := by decide +kernel
theorem dX12_nameAt_64 : decode cX12_nameAt 64 = .ok (.baload, 1) := by decide +kernel
theorem dX12_nameAt_65 : decode cX12_nameAt 65 = .ok (.if_icmp .ne 7, 3) := by decide +kernel
theorem dX12_nameAt_68 : decode cX12_nameAt 68 = .ok (.iconst 1, 1) := by decide +kernel
theorem dX12_nameAt_69 : decode cX12_nameAt 69 = .ok (.goto 4, 3) := by decide +kernel
theorem dX12_nameAt_72 : decode cX12_nameAt 72 = .ok (.iconst 0, 1) := by decide +kernel
theorem dX12_nameAt_73 : decode cX12_nameAt 73 = .ok (.istore_n 2, 1) := by decide +kernel
theorem dX12_nameAt_74 : decode cX12_nameAt 74 = .ok (.iinc 3 1, 3) := by decide +kernel
theorem dX12_nameAt_77 : decode cX12_nameAt 77 = .ok (.goto (-46), 3) := by decide +kernel
theorem dX12_nameAt_80 : decode cX12_nameAt 80 = .ok (.iload_n 2, 1) := by decide +kernel
theorem dX12_nameAt_81 : decode cX12_nameAt 81 = .ok (.ifCond .eq 5, 3) := by decide +kernel
theorem dX12_nameAt_84 : decode cX12_nameAt 84 = .ok (.iload_n 1, 1) := by decide +kernel
theorem dX12_nameAt_85 : decode cX12_nameAt 85 = .ok (.ireturn, 1) := by decide +kernel
theorem dX12_nameAt_86 : decode cX12_nameAt 86 = .ok (.iinc 1 1, 3) := by decide +kernel
theorem dX12_nameAt_89 : decode cX12_nameAt 89 = .ok (.goto (-87), 3) := by decide +kernel
theorem dX12_nameAt_92 : decode cX12_nameAt 92 = .ok (.iconst (-1), 1) := by decide +kernel
theorem dX12_nameAt_93 : decode cX12_nameAt 93 = .ok (.ireturn, 1) := by decide +kernel
abbrev rm_f_X12_nameAt : Room := { frames := 0, cells := 0, slots := 0, locals := 0 }
def f_X12_nameAt_L31 (K14 : (Int → St → Option (Int × St))) (y10 : Int) : Nat → Int → Int → St → Option (Int × St)
  | 0, _, _, _ => none
  | n9 + 1, x11, x12, t13 =>
    lt1 (t13.1 200 6) fun v15 =>
    cmpI x12 v15 (if x12 < v15 then (cmpI x11 0 (if x11 = 0 then (K14 x11 t13)
    else (ixI ((24 * y10) + x12) 4800 (lt1 (t13.1 9 ((24 * y10) + x12).toNat) fun v16 =>
    lt1 (t13.1 200 4) fun v17 =>
    ixI (v17 + x12) 4096 (lt1 (t13.1 0 (v17 + x12).toNat) fun v18 =>
    jn1 (fun (j19 : Int) (t20 : St) => f_X12_nameAt_L31 K14 y10 n9 j19 (x12 + 1) t20) fun J21 =>
    cmpI v16 v18 (if v16 = v18 then (J21 1 t13)
    else (J21 0 t13)))))))
    else (K14 x11 t13))
def f_X12_nameAt_L2 (N : Nat) (K3 : (St → Option (Int × St))) : Nat → Int → St → Option (Int × St)
  | 0, _, _ => none
  | n9 + 1, x1, t2 =>
    lt1 (t2.1 200 13) fun v4 =>
    cmpI x1 v4 (if x1 < v4 then (ixI x1 200 (lt1 (t2.1 10 x1.toNat) fun v5 =>
    lt1 (t2.1 200 6) fun v6 =>
    jn1 (fun (j7 : Int) (t8 : St) => f_X12_nameAt_L31 (fun (k22 : Int) (t23 : St) => cmpI k22 0 (if k22 = 0 then (f_X12_nameAt_L2 N K3 n9 (x1 + 1) t23)
    else (some (x1, t23)))) x1 N j7 0 t8) fun J9 =>
    cmpI v5 v6 (if v5 = v6 then (J9 1 t2)
    else (J9 0 t2))))
    else (K3 t2))
def f_X12_nameAt (N : Nat) (t : St) : Option (Int × St) :=
    f_X12_nameAt_L2 N (fun (t24 : St) => some ((-1), t24)) N 0 t
set_option maxHeartbeats 4000000 in
set_option maxRecDepth 100000 in
theorem t_f_X12_nameAt_L31 {p : Program} {l : Launch} {e : Env} {s : State} {m : MethodId} {args : Array Value} {below : List Frame} {meth : Method} {c : Code} {E : cE} {A : Nat → Prop} {r : Nat → Nat} {mc ms : Nat} {z : Int × St} {K14 : (Int → St → Option (Int × St))} {y10 : Int} (X : gX p s m meth c cX12_nameAt 4 (some .int) yX12_nameAt args E A) (hK14 : ∀ (q2 : Int) (t9 : St), K14 q2 t9 = some z → gP p l e rm_f_X12_nameAt s m args below meth c E A 4 (MQ below ((gqI E (gW E r shM) z) A) args s mc ms A) (gW E r shM) 80 [(0, .ref (r 200)), (1, iv y10), (2, iv q2)] [] t9) : ∀ (n9 : Nat) (x11 : Int) (x12 : Int) (t13 : St), f_X12_nameAt_L31 K14 y10 n9 x11 x12 t13 = some z → gP p l e rm_f_X12_nameAt s m args below meth c E A 4 (MQ below ((gqI E (gW E r shM) z) A) args s mc ms A) (gW E r shM) 31 [(0, .ref (r 200)), (1, iv y10), (2, iv x11), (3, iv x12)] [] t13 := by
  intro n9
  induction n9 with
  | zero => intro x11 x12 t13 h; cases h
  | succ n9 ih =>
    intro x11 x12 t13 h
    unfold f_X12_nameAt_L31 at h
    refine g_iload_n X dX12_nameAt_31 3 rfl ?_
    refine g_aload_n X dX12_nameAt_32 0 rfl ?_
    refine g_getI X fM_6 rfl dX12_nameAt_33 h (fun v15 h => ?_)
    refine g_icmp_ge (tgt := 80) X dX12_nameAt_36 (by decide) h (fun h => ?_) (fun h => ?_)
    · exact g_sub (lv' := [(0, .ref (r 200)), (1, iv y10), (2, iv x11)]) [0, 1, 2] rfl (hK14 x11 t13 h)
    · refine g_iload_n X dX12_nameAt_39 2 rfl ?_
      refine g_if_eq (tgt := 80) X dX12_nameAt_40 (by decide) h (fun h => ?_) (fun h => ?_)
      · exact g_sub (lv' := [(0, .ref (r 200)), (1, iv y10), (2, iv x11)]) [0, 1, 2] rfl (hK14 x11 t13 h)
      · refine g_aload_n X dX12_nameAt_43 0 rfl ?_
        refine g_getR X fM_9 rfl dX12_nameAt_44 ?_
        refine g_bipush X dX12_nameAt_47 (by decide) ?_
        refine g_iload_n X dX12_nameAt_49 1 rfl ?_
        refine g_imul X dX12_nameAt_50 ?_
        refine g_iload_n X dX12_nameAt_51 3 rfl ?_
        refine g_iadd X dX12_nameAt_52 ?_
        refine g_bald X aM_9 dX12_nameAt_53 h (fun v16 h => ?_)
        refine g_aload_n X dX12_nameAt_54 0 rfl ?_
        refine g_getR X fM_0 rfl dX12_nameAt_55 ?_
        refine g_aload_n X dX12_nameAt_58 0 rfl ?_
        refine g_getI X fM_4 rfl dX12_nameAt_59 h (fun v17 h => ?_)
        refine g_iload_n X dX12_nameAt_62 3 rfl ?_
        refine g_iadd X dX12_nameAt_63 ?_
        refine g_bald X aM_0 dX12_nameAt_64 h (fun v18 h => ?_)
        refine g_join (J := fun jj => ∀ (j19 : Int) (t20 : St), jj j19 t20 = some z → gP p l e rm_f_X12_nameAt s m args below meth c E A 4 (MQ below ((gqI E (gW E r shM) z) A) args s mc ms A) (gW E r shM) 73 [(0, .ref (r 200)), (1, iv y10), (3, iv x12)] [iv j19] t20) h (fun j19 t20 h => ?_) (fun J21 hJ21 h => ?_)
        · refine g_istore_n (lv' := [(2, iv j19), (0, .ref (r 200)), (1, iv y10), (3, iv x12)]) X dX12_nameAt_73 rfl (by decide) rfl ?_
          refine g_iinc (lv' := [(3, iv (x12 + 1)), (2, iv j19), (0, .ref (r 200)), (1, iv y10)]) X dX12_nameAt_74 (k := 3) rfl (by decide) rfl ?_
          refine g_goto (tgt := 31) X dX12_nameAt_77 (by decide) ?_
          exact g_sub (lv' := [(0, .ref (r 200)), (1, iv y10), (2, iv j19), (3, iv (x12 + 1))]) [2, 3, 1, 0] rfl (ih j19 (x12 + 1) t20 h)
        refine g_icmp_ne (tgt := 72) X dX12_nameAt_65 (by decide) h (fun h => ?_) (fun h => ?_)
        · refine g_iconst X dX12_nameAt_72 ?_
          exact g_sub (lv' := [(0, .ref (r 200)), (1, iv y10), (3, iv x12)]) [0, 1, 3] rfl (hJ21 0 t13 h)
        · refine g_iconst X dX12_nameAt_68 ?_
          refine g_goto (tgt := 73) X dX12_nameAt_69 (by decide) ?_
          exact g_sub (lv' := [(0, .ref (r 200)), (1, iv y10), (3, iv x12)]) [0, 1, 3] rfl (hJ21 1 t13 h)
set_option maxHeartbeats 4000000 in
set_option maxRecDepth 100000 in
theorem t_f_X12_nameAt_L2 {p : Program} {l : Launch} {e : Env} {s : State} {m : MethodId} {args : Array Value} {below : List Frame} {meth : Method} {c : Code} {E : cE} {A : Nat → Prop} {r : Nat → Nat} {mc ms : Nat} {z : Int × St} {N : Nat} {K3 : (St → Option (Int × St))} (X : gX p s m meth c cX12_nameAt 4 (some .int) yX12_nameAt args E A) (hK3 : ∀ (t9 : St), K3 t9 = some z → gP p l e rm_f_X12_nameAt s m args below meth c E A 4 (MQ below ((gqI E (gW E r shM) z) A) args s mc ms A) (gW E r shM) 92 [] [] t9) : ∀ (n9 : Nat) (x1 : Int) (t2 : St), f_X12_nameAt_L2 N K3 n9 x1 t2 = some z → gP p l e rm_f_X12_nameAt s m args below meth c E A 4 (MQ below ((gqI E (gW E r shM) z) A) args s mc ms A) (gW E r shM) 2 [(0, .ref (r 200)), (1, iv x1)] [] t2 := by
  intro n9
  induction n9 with
  | zero => intro x1 t2 h; cases h
  | succ n9 ih =>
    intro x1 t2 h
    unfold f_X12_nameAt_L2 at h
    refine g_iload_n X dX12_nameAt_2 1 rfl ?_
    refine g_aload_n X dX12_nameAt_3 0 rfl ?_
    refine g_getI X fM_13 rfl dX12_nameAt_4 h (fun v4 h => ?_)
    refine g_icmp_ge (tgt := 92) X dX12_nameAt_7 (by decide) h (fun h => ?_) (fun h => ?_)
    · exact g_sub (lv' := []) [] rfl (hK3 t2 h)
    · refine g_aload_n X dX12_nameAt_10 0 rfl ?_
      refine g_getR X fM_10 rfl dX12_nameAt_11 ?_
      refine g_iload_n X dX12_nameAt_14 1 rfl ?_
      refine g_iald X aM_10 dX12_nameAt_15 h (fun v5 h => ?_)
      refine g_aload_n X dX12_nameAt_16 0 rfl ?_
      refine g_getI X fM_6 rfl dX12_nameAt_17 h (fun v6 h => ?_)
      refine g_join (J := fun jj => ∀ (j7 : Int) (t8 : St), jj j7 t8 = some z → gP p l e rm_f_X12_nameAt s m args below meth c E A 4 (MQ below ((gqI E (gW E r shM) z) A) args s mc ms A) (gW E r shM) 28 [(0, .ref (r 200)), (1, iv x1)] [iv j7] t8) h (fun j7 t8 h => ?_) (fun J9 hJ9 h => ?_)
      · refine g_istore_n (lv' := [(2, iv j7), (0, .ref (r 200)), (1, iv x1)]) X dX12_nameAt_28 rfl (by decide) rfl ?_
        refine g_iconst X dX12_nameAt_29 ?_
        refine g_istore_n (lv' := [(3, iv 0), (2, iv j7), (0, .ref (r 200)), (1, iv x1)]) X dX12_nameAt_30 rfl (by decide) rfl ?_
        refine g_sub (lv' := [(0, .ref (r 200)), (1, iv x1), (2, iv j7), (3, iv 0)]) [2, 3, 1, 0] rfl (t_f_X12_nameAt_L31 X (fun k22 t23 h => ?_) N j7 0 t8 h)
        · refine g_iload_n X dX12_nameAt_80 2 rfl ?_
          refine g_if_eq (tgt := 86) X dX12_nameAt_81 (by decide) h (fun h => ?_) (fun h => ?_)
          · refine g_iinc (lv' := [(1, iv (x1 + 1)), (0, .ref (r 200)), (2, iv k22)]) X dX12_nameAt_86 (k := 1) rfl (by decide) rfl ?_
            refine g_goto (tgt := 2) X dX12_nameAt_89 (by decide) ?_
            exact g_sub (lv' := [(0, .ref (r 200)), (1, iv (x1 + 1))]) [1, 0] rfl (ih (x1 + 1) t23 h)
          · refine g_iload_n X dX12_nameAt_84 1 rfl ?_
            exact g_iret X h dX12_nameAt_85
      refine g_icmp_ne (tgt := 27) X dX12_nameAt_20 (by decide) h (fun h => ?_) (fun h => ?_)
      · refine g_iconst X dX12_nameAt_27 ?_
        exact g_sub (lv' := [(0, .ref (r 200)), (1, iv x1)]) [0, 1] rfl (hJ9 0 t2 h)
      · refine g_iconst X dX12_nameAt_23 ?_
        refine g_goto (tgt := 28) X dX12_nameAt_24 (by decide) ?_
        exact g_sub (lv' := [(0, .ref (r 200)), (1, iv x1)]) [0, 1] rfl (hJ9 1 t2 h)
set_option maxHeartbeats 4000000 in
set_option maxRecDepth 100000 in
theorem b_f_X12_nameAt {p : Program} {l : Launch} {e : Env} {s : State} {m : MethodId} {args : Array Value} {below : List Frame} {meth : Method} {c : Code} {E : cE} {A : Nat → Prop} {r : Nat → Nat} {mc ms : Nat} {z : Int × St} {N : Nat} {t : St} (X : gX p s m meth c cX12_nameAt 4 (some .int) yX12_nameAt args E A) (h : f_X12_nameAt N t = some z) : gP p l e rm_f_X12_nameAt s m args below meth c E A 4 (MQ below ((gqI E (gW E r shM) z) A) args s mc ms A) (gW E r shM) 0 [(0, .ref (r 200))] [] t := by
  unfold f_X12_nameAt at h
  refine g_iconst X dX12_nameAt_0 ?_
  refine g_istore_n (lv' := [(1, iv 0), (0, .ref (r 200))]) X dX12_nameAt_1 rfl (by decide) rfl ?_
  refine g_sub (lv' := [(0, .ref (r 200)), (1, iv 0)]) [1, 0] rfl (t_f_X12_nameAt_L2 X (fun t24 h => ?_) N 0 t h)
  · refine g_iconst X dX12_nameAt_92 ?_
    exact g_iret X h dX12_nameAt_93
set_option maxHeartbeats 4000000 in
set_option maxRecDepth 100000 in
theorem cp_X12_nameAt (l : Launch) (E : cE) (r : Nat → Nat) (N : Nat) (t : St) (z : Int × St) (h : f_X12_nameAt N t = some z) : cM l E yX12_nameAt cX12_nameAt 4 (some .int) rm_f_X12_nameAt [.ref (r 200)] (gW E r shM t) (gqI E (gW E r shM) z) := by
  refine g_of (w := gW E r shM) (by decide) (Nat.le_of_ble_eq_true rfl) ?_
  intro p e s m below meth c A X
  exact g_sub (lv' := [(0, .ref (r 200))]) [0] rfl (b_f_X12_nameAt X h)
theorem yy_X12_nameAt : cY yX12_nameAt cX12_nameAt 4 (some .int) 0 := ⟨wdK_X12_nameAt, wdZ_RX12, by decide +kernel⟩
theorem yi_X12_nameAt : cYi yX12_nameAt := ⟨wdN_X12_nameAt, wdS_X12_nameAt⟩
theorem dX12_tell_0 : decode cX12_tell 0 = .ok (.iconst 0, 1) := by decide +kernel
theorem dX12_tell_1 : decode cX12_tell 1 = .ok (.istore 5, 2) := by decide +kernel
theorem dX12_tell_3 : decode cX12_tell 3 = .ok (.iload 5, 2) := by decide +kernel
theorem dX12_tell_5 : decode cX12_tell 5 = .ok (.iload 4, 2) := by decide +kernel
theorem dX12_tell_7 : decode cX12_tell 7 = .ok (.if_icmp .ge 33, 3) := by decide +kernel
theorem dX12_tell_10 : decode cX12_tell 10 = .ok (.aload_n 0, 1) := by decide +kernel
theorem dX12_tell_11 : decode cX12_tell 11 = .ok (.getfield 13, 3) := by decide +kernel
theorem dX12_tell_14 : decode cX12_tell 14 = .ok (.bipush 24, 2) := by decide +kernel
theorem dX12_tell_16 : decode cX12_tell 16 = .ok (.aload_n 0, 1) := by decide +kernel
theorem dX12_tell_17 : decode cX12_tell 17 = .ok (.getfield 347, 3) := by decide +kernel
theorem dX12_tell_20 : decode cX12_tell 20 = .ok (.imul, 1) := by decide +kernel
theorem dX12_tell_21 : decode cX12_tell 21 = .ok (.iload 5, 2) := by decide +kernel
theorem dX12_tell_23 : decode cX12_tell 23 = .ok (.iadd, 1) := by decide +kernel
theorem dX12_tell_24 : decode cX12_tell 24 = .ok (.aload_n 0, 1) := by decide +kernel
theorem dX12_tell_25 : decode cX12_tell 25 = .ok (.getfield 7, 3) := by decide +kernel
theorem dX12_tell_28 : decode cX12_tell 28 = .ok (.iload_n 3, 1) := by decide +kernel
theorem dX12_tell_29 : decode cX12_tell 29 = .ok (.iload 5, 2) := by decide +kernel
theorem dX12_tell_31 : decode cX12_tell 31 = .ok (.iadd, 1) := by decide +kernel
theorem dX12_tell_32 : decode cX12_tell 32 = .ok (.baload, 1) := by decide +kernel
theorem dX12_tell_33 : decode cX12_tell 33 = .ok (.bastore, 1) := by decide +kernel
theorem dX12_tell_34 : decode cX12_tell 34 = .ok (.iinc 5 1, 3) := by decide +kernel
theorem dX12_tell_37 : decode cX12_tell 37 = .ok (.goto (-34), 3) := by decide +kernel
theorem dX12_tell_40 : decode cX12_tell 40 = .ok (.aload_n 0, 1) := by decide +kernel
theorem dX12_tell_41 : decode cX12_tell 41 = .ok (.getfield 16, 3) := by decide +kernel
theorem dX12_tell_44 : decode cX12_tell 44 = .ok (.aload_n 0, 1) := by decide +kernel
theorem dX12_tell_45 : decode cX12_tell 45 = .ok (.getfield 347, 3) := by decide +kernel
theorem dX12_tell_48 : decode cX12_tell 48 = .ok (.iload 4, 2) := by decide +kernel
theorem dX12_tell_50 : decode cX12_tell 50 = .ok (.iastore, 1) := by decide +kernel
theorem dX12_tell_51 : decode cX12_tell 51 = .ok (.aload_n 0, 1) := by decide +kernel
theorem dX12_tell_52 : decode cX12_tell 52 = .ok (.getfield 20, 3) := by decide +kernel
theorem dX12_tell_55 : decode cX12_tell 55 = .ok (.aload_n 0, 1) := by decide +kernel
theorem dX12_tell_56 : decode cX12_tell 56 = .ok (.getfield 347, 3) := by decide +kernel
theorem dX12_tell_59 : decode cX12_tell 59 = .ok (.iload_n 1, 1) := by decide +kernel
theorem dX12_tell_60 : decode cX12_tell 60 = .ok (.iastore, 1) := by decide +kernel
theorem dX12_tell_61 : decode cX12_tell 61 = .ok (.aload_n 0, 1) := by decide +kernel
theorem dX12_tell_62 : decode cX12_tell 62 = .ok (.getfield 23, 3) := by decide +kernel
theorem dX12_tell_65 : decode cX12_tell 65 = .ok (.aload_n 0, 1) := by decide +kernel
theorem dX12_tell_66 : decode cX12_tell 66 = .ok (.getfield 347, 3) := by decide +kernel
theorem dX12_tell_69 : decode cX12_tell 69 = .ok (.iload_n 2, 1) := by decide +kernel
theorem dX12_tell_70 : decode cX12_tell 70 = .ok (.iastore, 1) := by decide +kernel
theorem dX12_tell_71 : decode cX12_tell 71 = .ok (.aload_n 0, 1) := by decide +kernel
theorem dX12_tell_72 : decode cX12_tell 72 = .ok (.dup, 1) := by decide +kernel
theorem dX12_tell_73 : decode cX12_tell 73 = .ok (.getfield 347, 3) := by decide +kernel
theorem dX12_tell_76 : decode cX12_tell 76 = .ok (.iconst 1, 1) := by decide +kernel
theorem dX12_tell_77 : decode cX12_tell 77 = .ok (.iadd, 1) := by decide +kernel
theorem dX12_tell_78 : decode cX12_tell 78 = .ok (.putfield 347, 3) := by decide +kernel
theorem dX12_tell_81 : decode cX12_tell 81 = .ok (.return_, 1) := by decide +kernel
abbrev rm_f_X12_tell : Room := { frames := 0, cells := 0, slots := 0, locals := 0 }
def f_X12_tell_L3 (K7 : (St → Option (St))) (y3 : Int) (y4 : Int) : Nat → Int → St → Option (St)
  | 0, _, _ => none
  | n9 + 1, x5, t6 =>
    cmpI x5 y4 (if x5 < y4 then (lt1 (t6.1 200 13) fun v8 =>
    ixI (y3 + x5) 4096 (lt1 (t6.1 0 (y3 + x5).toNat) fun v9 =>
    ixI ((24 * v8) + x5) 4800 (lt1 (pI t6 9 ((24 * v8) + x5).toNat (b8 v9)) fun t10 =>
    f_X12_tell_L3 K7 y3 y4 n9 (x5 + 1) t10)))
    else (K7 t6))
def f_X12_tell (N : Nat) (a0 : Int) (a1 : Int) (a2 : Int) (a3 : Int) (t : St) : Option (St) :=
    f_X12_tell_L3 (fun (t11 : St) => lt1 (t11.1 200 13) fun v12 =>
    ixI v12 200 (lt1 (pI t11 10 v12.toNat a3) fun t13 =>
    lt1 (t13.1 200 13) fun v14 =>
    ixI v14 200 (lt1 (pI t13 11 v14.toNat a0) fun t15 =>
    lt1 (t15.1 200 13) fun v16 =>
    ixI v16 200 (lt1 (pI t15 12 v16.toNat a1) fun t17 =>
    lt1 (t17.1 200 13) fun v18 =>
    lt1 (pI t17 200 13 (v18 + 1)) fun t19 =>
    some t19)))) a2 a3 N 0 t
set_option maxHeartbeats 4000000 in
set_option maxRecDepth 100000 in
theorem t_f_X12_tell_L3 {p : Program} {l : Launch} {e : Env} {s : State} {m : MethodId} {args : Array Value} {below : List Frame} {meth : Method} {c : Code} {E : cE} {A : Nat → Prop} {r : Nat → Nat} {mc ms : Nat} {z : St} {K7 : (St → Option (St))} {y1 : Int} {y2 : Int} {y3 : Int} {y4 : Int} (X : gX p s m meth c cX12_tell 6 none yX12_tell args E A) (hK7 : ∀ (t9 : St), K7 t9 = some z → gP p l e rm_f_X12_tell s m args below meth c E A 6 (MQ below ((gqV E (gW E r shM) z) A) args s mc ms A) (gW E r shM) 40 [(0, .ref (r 200)), (1, iv y1), (2, iv y2), (4, iv y4)] [] t9) : ∀ (n9 : Nat) (x5 : Int) (t6 : St), f_X12_tell_L3 K7 y3 y4 n9 x5 t6 = some z → gP p l e rm_f_X12_tell s m args below meth c E A 6 (MQ below ((gqV E (gW E r shM) z) A) args s mc ms A) (gW E r shM) 3 [(0, .ref (r 200)), (1, iv y1), (2, iv y2), (3, iv y3), (4, iv y4), (5, iv x5)] [] t6 := by
  intro n9
  induction n9 with
  | zero => intro x5 t6 h; cases h
  | succ n9 ih =>
    intro x5 t6 h
    unfold f_X12_tell_L3 at h
    refine g_iload X dX12_tell_3 5 rfl ?_
    refine g_iload X dX12_tell_5 4 rfl ?_
    refine g_icmp_ge (tgt := 40) X dX12_tell_7 (by decide) h (fun h => ?_) (fun h => ?_)
    · exact g_sub (lv' := [(0, .ref (r 200)), (1, iv y1), (2, iv y2), (4, iv y4)]) [0, 1, 2, 4] rfl (hK7 t6 h)
    · refine g_aload_n X dX12_tell_10 0 rfl ?_
      refine g_getR X fM_9 rfl dX12_tell_11 ?_
      refine g_bipush X dX12_tell_14 (by decide) ?_
      refine g_aload_n X dX12_tell_16 0 rfl ?_
      refine g_getI X fM_13 rfl dX12_tell_17 h (fun v8 h => ?_)
      refine g_imul X dX12_tell_20 ?_
      refine g_iload X dX12_tell_21 5 rfl ?_
      refine g_iadd X dX12_tell_23 ?_
      refine g_aload_n X dX12_tell_24 0 rfl ?_
      refine g_getR X fM_0 rfl dX12_tell_25 ?_
      refine g_iload_n X dX12_tell_28 3 rfl ?_
      refine g_iload X dX12_tell_29 5 rfl ?_
      refine g_iadd X dX12_tell_31 ?_
      refine g_bald X aM_0 dX12_tell_32 h (fun v9 h => ?_)
      refine g_bast X aM_9 dX12_tell_33 h (fun t10 h => ?_)
      refine g_iinc (lv' := [(5, iv (x5 + 1)), (0, .ref (r 200)), (1, iv y1), (2, iv y2), (3, iv y3), (4, iv y4)]) X dX12_tell_34 (k := 5) rfl (by decide) rfl ?_
      refine g_goto (tgt := 3) X dX12_tell_37 (by decide) ?_
      exact g_sub (lv' := [(0, .ref (r 200)), (1, iv y1), (2, iv y2), (3, iv y3), (4, iv y4), (5, iv (x5 + 1))]) [1, 2, 3, 4, 5, 0] rfl (ih (x5 + 1) t10 h)
set_option maxHeartbeats 4000000 in
set_option maxRecDepth 100000 in
theorem b_f_X12_tell {p : Program} {l : Launch} {e : Env} {s : State} {m : MethodId} {args : Array Value} {below : List Frame} {meth : Method} {c : Code} {E : cE} {A : Nat → Prop} {r : Nat → Nat} {mc ms : Nat} {z : St} {N : Nat} {a0 : Int} {a1 : Int} {a2 : Int} {a3 : Int} {t : St} (X : gX p s m meth c cX12_tell 6 none yX12_tell args E A) (h : f_X12_tell N a0 a1 a2 a3 t = some z) : gP p l e rm_f_X12_tell s m args below meth c E A 6 (MQ below ((gqV E (gW E r shM) z) A) args s mc ms A) (gW E r shM) 0 [(0, .ref (r 200)), (1, iv a0), (2, iv a1), (3, iv a2), (4, iv a3)] [] t := by
  unfold f_X12_tell at h
  refine g_iconst X dX12_tell_0 ?_
  refine g_istore (lv' := [(5, iv 0), (0, .ref (r 200)), (1, iv a0), (2, iv a1), (3, iv a2), (4, iv a3)]) X dX12_tell_1 (by decide) rfl ?_
  refine g_sub (lv' := [(0, .ref (r 200)), (1, iv a0), (2, iv a1), (3, iv a2), (4, iv a3), (5, iv 0)]) [1, 2, 3, 4, 5, 0] rfl (t_f_X12_tell_L3 X (fun t11 h => ?_) N 0 t h)
  · refine g_aload_n X dX12_tell_40 0 rfl ?_
    refine g_getR X fM_10 rfl dX12_tell_41 ?_
    refine g_aload_n X dX12_tell_44 0 rfl ?_
    refine g_getI X fM_13 rfl dX12_tell_45 h (fun v12 h => ?_)
    refine g_iload X dX12_tell_48 3 rfl ?_
    refine g_iast X aM_10 dX12_tell_50 h (fun t13 h => ?_)
    refine g_aload_n X dX12_tell_51 0 rfl ?_
    refine g_getR X fM_11 rfl dX12_tell_52 ?_
    refine g_aload_n X dX12_tell_55 0 rfl ?_
    refine g_getI X fM_13 rfl dX12_tell_56 h (fun v14 h => ?_)
    refine g_iload_n X dX12_tell_59 1 rfl ?_
    refine g_iast X aM_11 dX12_tell_60 h (fun t15 h => ?_)
    refine g_aload_n X dX12_tell_61 0 rfl ?_
    refine g_getR X fM_12 rfl dX12_tell_62 ?_
    refine g_aload_n X dX12_tell_65 0 rfl ?_
    refine g_getI X fM_13 rfl dX12_tell_66 h (fun v16 h => ?_)
    refine g_iload_n X dX12_tell_69 2 rfl ?_
    refine g_iast X aM_12 dX12_tell_70 h (fun t17 h => ?_)
    refine g_aload_n X dX12_tell_71 0 rfl ?_
    refine g_dup X rfl dX12_tell_72 ?_
    refine g_getI X fM_13 rfl dX12_tell_73 h (fun v18 h => ?_)
    refine g_iconst X dX12_tell_76 ?_
    refine g_iadd X dX12_tell_77 ?_
    refine g_putI X fM_13w rfl dX12_tell_78 h (fun t19 h => ?_)
    exact g_vret X h dX12_tell_81
set_option maxHeartbeats 4000000 in
set_option maxRecDepth 100000 in
theorem cp_X12_tell (l : Launch) (E : cE) (r : Nat → Nat) (N : Nat) (a0 : Int) (a1 : Int) (a2 : Int) (a3 : Int) (t : St) (z : St) (h : f_X12_tell N a0 a1 a2 a3 t = some z) : cM l E yX12_tell cX12_tell 6 none rm_f_X12_tell [.ref (r 200), iv a0, iv a1, iv a2, iv a3] (gW E r shM t) (gqV E (gW E r shM) z) := by
  refine g_of (w := gW E r shM) (by decide) (Nat.le_of_ble_eq_true rfl) ?_
  intro p e s m below meth c A X
  exact g_sub (lv' := [(0, .ref (r 200)), (1, iv a0), (2, iv a1), (3, iv a2), (4, iv a3)]) [0, 1, 2, 3, 4] rfl (b_f_X12_tell X h)
theorem yy_X12_tell : cY yX12_tell cX12_tell 6 none 4 := ⟨wdK_X12_tell, wdZ_RX12, by decide +kernel⟩
theorem yi_X12_tell : cYi yX12_tell := ⟨wdN_X12_tell, wdS_X12_tell⟩
theorem dX12_fault_0 : decode cX12_fault 0 = .ok (.aload_n 0, 1) := by decide +kernel
theorem dX12_fault_1 : decode cX12_fault 1 = .ok (.getfield 308, 3) := by decide +kernel
theorem dX12_fault_4 : decode cX12_fault 4 = .ok (.ireturn, 1) := by decide +kernel
abbrev rm_f_X12_fault : Room := { frames := 0, cells := 0, slots := 0, locals := 0 }
def f_X12_fault (N : Nat) (t : St) : Option (Int × St) :=
    lt1 (t.1 200 8) fun v1 =>
    some (v1, t)
set_option maxHeartbeats 4000000 in
set_option maxRecDepth 100000 in
theorem b_f_X12_fault {p : Program} {l : Launch} {e : Env} {s : State} {m : MethodId} {args : Array Value} {below : List Frame} {meth : Method} {c : Code} {E : cE} {A : Nat → Prop} {r : Nat → Nat} {mc ms : Nat} {z : Int × St} {N : Nat} {t : St} (X : gX p s m meth c cX12_fault 1 (some .int) yX12_fault args E A) (h : f_X12_fault N t = some z) : gP p l e rm_f_X12_fault s m args below meth c E A 1 (MQ below ((gqI E (gW E r shM) z) A) args s mc ms A) (gW E r shM) 0 [(0, .ref (r 200))] [] t := by
  unfold f_X12_fault at h
  refine g_aload_n X dX12_fault_0 0 rfl ?_
  refine g_getI X fM_8 rfl dX12_fault_1 h (fun v1 h => ?_)
  exact g_iret X h dX12_fault_4
set_option maxHeartbeats 4000000 in
set_option maxRecDepth 100000 in
theorem cp_X12_fault (l : Launch) (E : cE) (r : Nat → Nat) (N : Nat) (t : St) (z : Int × St) (h : f_X12_fault N t = some z) : cM l E yX12_fault cX12_fault 1 (some .int) rm_f_X12_fault [.ref (r 200)] (gW E r shM t) (gqI E (gW E r shM) z) := by
  refine g_of (w := gW E r shM) (by decide) (Nat.le_of_ble_eq_true rfl) ?_
  intro p e s m below meth c A X
  exact g_sub (lv' := [(0, .ref (r 200))]) [0] rfl (b_f_X12_fault X h)
theorem yy_X12_fault : cY yX12_fault cX12_fault 1 (some .int) 0 := ⟨wdK_X12_fault, wdZ_RX12, by decide +kernel⟩
theorem yi_X12_fault : cYi yX12_fault := ⟨wdN_X12_fault, wdS_X12_fault⟩
theorem dX12_one_0 : decode cX12_one 0 = .ok (.lconst 1, 1) := by decide +kernel
theorem dX12_one_1 : decode cX12_one 1 = .ok (.iload_n 0, 1) := by decide +kernel
theorem dX12_one_2 : decode cX12_one 2 = .ok (.lshl, 1) := by decide +kernel
theorem dX12_one_3 : decode cX12_one 3 = .ok (.lreturn, 1) := by decide +kernel
abbrev rm_f_X12_one : Room := { frames := 0, cells := 0, slots := 0, locals := 0 }
def f_X12_one (N : Nat) (a0 : Int) (t : St) : Option (Int64 × St) :=
    some (shlL (1 : Int64) a0, t)
set_option maxHeartbeats 4000000 in
set_option maxRecDepth 100000 in
theorem b_f_X12_one {p : Program} {l : Launch} {e : Env} {s : State} {m : MethodId} {args : Array Value} {below : List Frame} {meth : Method} {c : Code} {E : cE} {A : Nat → Prop} {r : Nat → Nat} {mc ms : Nat} {z : Int64 × St} {N : Nat} {a0 : Int} {t : St} (X : gX p s m meth c cX12_one 1 (some .long) yX12_one args E A) (h : f_X12_one N a0 t = some z) : gP p l e rm_f_X12_one s m args below meth c E A 1 (MQ below ((gqL E (gW E r shM) z) A) args s mc ms A) (gW E r shM) 0 [(0, iv a0)] [] t := by
  unfold f_X12_one at h
  refine g_lconst (v := 1) X dX12_one_0 (by decide) ?_
  refine g_iload_n X dX12_one_1 0 rfl ?_
  refine g_lshl X dX12_one_2 ?_
  exact g_lret X h dX12_one_3
set_option maxHeartbeats 4000000 in
set_option maxRecDepth 100000 in
theorem cp_X12_one (l : Launch) (E : cE) (r : Nat → Nat) (N : Nat) (a0 : Int) (t : St) (z : Int64 × St) (h : f_X12_one N a0 t = some z) : cM l E yX12_one cX12_one 1 (some .long) rm_f_X12_one [iv a0] (gW E r shM t) (gqL E (gW E r shM) z) := by
  refine g_of (w := gW E r shM) (by decide) (Nat.le_of_ble_eq_true rfl) ?_
  intro p e s m below meth c A X
  exact g_sub (lv' := [(0, iv a0)]) [0] rfl (b_f_X12_one X h)
theorem yy_X12_one : cY yX12_one cX12_one 1 (some .long) 1 := ⟨wdK_X12_one, wdZ_RX12, by decide +kernel⟩
theorem dX12_has_0 : decode cX12_has 0 = .ok (.lload_n 0, 1) := by decide +kernel
theorem dX12_has_1 : decode cX12_has 1 = .ok (.iload_n 2, 1) := by decide +kernel
theorem dX12_has_2 : decode cX12_has 2 = .ok (.lshr, 1) := by decide +kernel
theorem dX12_has_3 : decode cX12_has 3 = .ok (.lconst 1, 1) := by decide +kernel
theorem dX12_has_4 : decode cX12_has 4 = .ok (.land, 1) := by decide +kernel
theorem dX12_has_5 : decode cX12_has 5 = .ok (.lconst 1, 1) := by decide +kernel
theorem dX12_has_6 : decode cX12_has 6 = .ok (.lcmp, 1) := by decide +kernel
theorem dX12_has_7 : decode cX12_has 7 = .ok (.ifCond .ne 7, 3) := by decide +kernel
theorem dX12_has_10 : decode cX12_has 10 = .ok (.iconst 1, 1) := by decide +kernel
theorem dX12_has_11 : decode cX12_has 11 = .ok (.goto 4, 3) := by decide +kernel
theorem dX12_has_14 : decode cX12_has 14 = .ok (.iconst 0, 1) := by decide +kernel
theorem dX12_has_15 : decode cX12_has 15 = .ok (.ireturn, 1) := by decide +kernel
abbrev rm_f_X12_has : Room := { frames := 0, cells := 0, slots := 0, locals := 0 }
def f_X12_has (N : Nat) (a0 : Int64) (a1 : Int) (t : St) : Option (Int × St) :=
    (if ((shrL a0 a1) &&& (1 : Int64)) = (1 : Int64) then (boI 1 (some (1, t)))
    else (boI 0 (some (0, t))))
set_option maxHeartbeats 4000000 in
set_option maxRecDepth 100000 in
theorem b_f_X12_has {p : Program} {l : Launch} {e : Env} {s : State} {m : MethodId} {args : Array Value} {below : List Frame} {meth : Method} {c : Code} {E : cE} {A : Nat → Prop} {r : Nat → Nat} {mc ms : Nat} {z : Int × St} {N : Nat} {a0 : Int64} {a1 : Int} {t : St} (X : gX p s m meth c cX12_has 3 (some .boolean) yX12_has args E A) (h : f_X12_has N a0 a1 t = some z) : gP p l e rm_f_X12_has s m args below meth c E A 3 (MQ below ((gqI E (gW E r shM) z) A) args s mc ms A) (gW E r shM) 0 [(0, .long a0), (2, iv a1)] [] t := by
  unfold f_X12_has at h
  refine g_lload_n X dX12_has_0 0 rfl ?_
  refine g_iload_n X dX12_has_1 1 rfl ?_
  refine g_lshr X dX12_has_2 ?_
  refine g_lconst (v := 1) X dX12_has_3 (by decide) ?_
  refine g_land X dX12_has_4 ?_
  refine g_lconst (v := 1) X dX12_has_5 (by decide) ?_
  refine g_lcmp_ne (tgt := 14) X dX12_has_6 dX12_has_7 (by decide) h (fun h => ?_) (fun h => ?_)
  · refine g_iconst X dX12_has_14 ?_
    exact g_zret X h dX12_has_15
  · refine g_iconst X dX12_has_10 ?_
    refine g_goto (tgt := 15) X dX12_has_11 (by decide) ?_
    exact g_zret X h dX12_has_15
set_option maxHeartbeats 4000000 in
set_option maxRecDepth 100000 in
theorem cp_X12_has (l : Launch) (E : cE) (r : Nat → Nat) (N : Nat) (a0 : Int64) (a1 : Int) (t : St) (z : Int × St) (h : f_X12_has N a0 a1 t = some z) : cM l E yX12_has cX12_has 3 (some .boolean) rm_f_X12_has [.long a0, iv a1] (gW E r shM t) (gqI E (gW E r shM) z) := by
  refine g_of (w := gW E r shM) (by decide) (Nat.le_of_ble_eq_true rfl) ?_
  intro p e s m below meth c A X
  exact g_sub (lv' := [(0, .long a0), (2, iv a1)]) [0, 1] rfl (b_f_X12_has X h)
theorem yy_X12_has : cY yX12_has cX12_has 3 (some .boolean) 2 := ⟨wdK_X12_has, wdZ_RX12, by decide +kernel⟩
