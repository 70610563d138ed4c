theorem dX1_square_0 : decode cX1_square 0 = .ok (.aload_n 1, 1) := by decide +kernel
theorem dX1_square_1 : decode cX1_square 1 = .ok (.iconst 0, 1) := by decide +kernel
theorem dX1_square_2 : decode cX1_square 2 = .ok (.iaload, 1) := by decide +kernel
theorem dX1_square_3 : decode cX1_square 3 = .ok (.istore_n 3, 1) := by decide +kernel
theorem dX1_square_4 : decode cX1_square 4 = .ok (.aload_n 1, 1) := by decide +kernel
theorem dX1_square_5 : decode cX1_square 5 = .ok (.iconst 0, 1) := by decide +kernel
theorem dX1_square_6 : decode cX1_square 6 = .ok (.iaload, 1) := by decide +kernel
theorem dX1_square_7 : decode cX1_square 7 = .ok (.istore 4, 2) := by decide +kernel
theorem dX1_square_9 : decode cX1_square 9 = .ok (.iconst 1, 1) := by decide +kernel
theorem dX1_square_10 : decode cX1_square 10 = .ok (.istore 5, 2) := by decide +kernel
theorem dX1_square_12 : decode cX1_square 12 = .ok (.iload 5, 2) := by decide +kernel
theorem dX1_square_14 : decode cX1_square 14 = .ok (.iload_n 2, 1) := by decide +kernel
theorem dX1_square_15 : decode cX1_square 15 = .ok (.if_icmp .ge 29, 3) := by decide +kernel
theorem dX1_square_18 : decode cX1_square 18 = .ok (.iload_n 3, 1) := by decide +kernel
theorem dX1_square_19 : decode cX1_square 19 = .ok (.aload_n 1, 1) := by decide +kernel
theorem dX1_square_20 : decode cX1_square 20 = .ok (.iload 5, 2) := by decide +kernel
theorem dX1_square_22 : decode cX1_square 22 = .ok (.iaload, 1) := by decide +kernel
theorem dX1_square_23 : decode cX1_square 23 = .ok (.invokestatic 88, 3) := by decide +kernel
theorem dX1_square_26 : decode cX1_square 26 = .ok (.istore_n 3, 1) := by decide +kernel
theorem dX1_square_27 : decode cX1_square 27 = .ok (.iload 4, 2) := by decide +kernel
theorem dX1_square_29 : decode cX1_square 29 = .ok (.aload_n 1, 1) := by decide +kernel
theorem dX1_square_30 : decode cX1_square 30 = .ok (.iload 5, 2) := by decide +kernel
theorem dX1_square_32 : decode cX1_square 32 = .ok (.iaload, 1) := by decide +kernel
theorem dX1_square_33 : decode cX1_square 33 = .ok (.invokestatic 66, 3) := by decide +kernel
theorem dX1_square_36 : decode cX1_square 36 = .ok (.istore 4, 2) := by decide +kernel
theorem dX1_square_38 : decode cX1_square 38 = .ok (.iinc 5 1, 3) := by decide +kernel
theorem dX1_square_41 : decode cX1_square 41 = .ok (.goto (-29), 3) := by decide +kernel
theorem dX1_square_44 : decode cX1_square 44 = .ok (.iload 4, 2) := by decide +kernel
theorem dX1_square_46 : decode cX1_square 46 = .ok (.iload_n 3, 1) := by decide +kernel
theorem dX1_square_47 : decode cX1_square 47 = .ok (.isub, 1) := by decide +kernel
theorem dX1_square_48 : decode cX1_square 48 = .ok (.iconst 1, 1) := by decide +kernel
theorem dX1_square_49 : decode cX1_square 49 = .ok (.iadd, 1) := by decide +kernel
theorem dX1_square_50 : decode cX1_square 50 = .ok (.sipush 512, 3) := by decide +kernel
theorem dX1_square_53 : decode cX1_square 53 = .ok (.invokestatic 88, 3) := by decide +kernel
theorem dX1_square_56 : decode cX1_square 56 = .ok (.istore 5, 2) := by decide +kernel
theorem dX1_square_58 : decode cX1_square 58 = .ok (.iconst 0, 1) := by decide +kernel
theorem dX1_square_59 : decode cX1_square 59 = .ok (.istore 6, 2) := by decide +kernel
theorem dX1_square_61 : decode cX1_square 61 = .ok (.iload 6, 2) := by decide +kernel
theorem dX1_square_63 : decode cX1_square 63 = .ok (.iload 5, 2) := by decide +kernel
theorem dX1_square_65 : decode cX1_square 65 = .ok (.if_icmp .ge 17, 3) := by decide +kernel
theorem dX1_square_68 : decode cX1_square 68 = .ok (.aload_n 0, 1) := by decide +kernel
theorem dX1_square_69 : decode cX1_square 69 = .ok (.getfield 34, 3) := by decide +kernel
theorem dX1_square_72 : decode cX1_square 72 = .ok (.iload 6, 2) := by decide +kernel
theorem dX1_square_74 : decode cX1_square 74 = .ok (.iconst 0, 1) := by decide +kernel
theorem dX1_square_75 : decode cX1_square 75 = .ok (.iastore, 1) := by decide +kernel
theorem dX1_square_76 : decode cX1_square 76 = .ok (.iinc 6 1, 3) := by decide +kernel
theorem dX1_square_79 : decode cX1_square 79 = .ok (.goto (-18), 3) := by decide +kernel
theorem dX1_square_82 : decode cX1_square 82 = .ok (.iconst 0, 1) := by decide +kernel
theorem dX1_square_83 : decode cX1_square 83 = .ok (.istore 6, 2) := by decide +kernel
theorem dX1_square_85 : decode cX1_square 85 = .ok (.iload 6, 2) := by decide +kernel
theorem dX1_square_87 : decode cX1_square 87 = .ok (.iload_n 2, 1) := by decide +kernel
theorem dX1_square_88 : decode cX1_square 88 = .ok (.if_icmp .ge 25, 3) := by decide +kernel
theorem dX1_square_91 : decode cX1_square 91 = .ok (.aload_n 0, 1) := by decide +kernel
theorem dX1_square_92 : decode cX1_square 92 = .ok (.getfield 34, 3) := by decide +kernel
theorem dX1_square_95 : decode cX1_square 95 = .ok (.aload_n 1, 1) := by decide +kernel
theorem dX1_square_96 : decode cX1_square 96 = .ok (.iload 6, 2) := by decide +kernel
theorem dX1_square_98 : decode cX1_square 98 = .ok (.iaload, 1) := by decide +kernel
theorem dX1_square_99 : decode cX1_square 99 = .ok (.iload_n 3, 1) := by decide +kernel
theorem dX1_square_100 : decode cX1_square 100 = .ok (.isub, 1) := by decide +kernel
theorem dX1_square_101 : decode cX1_square 101 = .ok (.sipush 511, 3) := by decide +kernel
theorem dX1_square_104 : decode cX1_square 104 = .ok (.iand, 1) := by decide +kernel
theorem dX1_square_105 : decode cX1_square 105 = .ok (.iconst 1, 1) := by decide +kernel
theorem dX1_square_106 : decode cX1_square 106 = .ok (.iastore, 1) := by decide +kernel
theorem dX1_square_107 : decode cX1_square 107 = .ok (.iinc 6 1, 3) := by decide +kernel
theorem dX1_square_110 : decode cX1_square 110 = .ok (.goto (-25), 3) := by decide +kernel
theorem dX1_square_113 : decode cX1_square 113 = .ok (.iconst 0, 1) := by decide +kernel
theorem dX1_square_114 : decode cX1_square 114 = .ok (.istore 6, 2) := by decide +kernel
theorem dX1_square_116 : decode cX1_square 116 = .ok (.iconst 0, 1) := by decide +kernel
theorem dX1_square_117 : decode cX1_square 117 = .ok (.istore 7, 2) := by decide +kernel
theorem dX1_square_119 : decode cX1_square 119 = .ok (.iload 7, 2) := by decide +kernel
theorem dX1_square_121 : decode cX1_square 121 = .ok (.iload 5, 2) := by decide +kernel
theorem dX1_square_123 : decode cX1_square 123 = .ok (.if_icmp .ge 31, 3) := by decide +kernel
theorem dX1_square_126 : decode cX1_square 126 = .ok (.aload_n 0, 1) := by decide +kernel
theorem dX1_square_127 : decode cX1_square 127 = .ok (.getfield 34, 3) := by decide +kernel
theorem dX1_square_130 : decode cX1_square 130 = .ok (.iload 7, 2) := by decide +kernel
theorem dX1_square_132 : decode cX1_square 132 = .ok (.iaload, 1) := by decide +kernel
theorem dX1_square_133 : decode cX1_square 133 = .ok (.ifCond .eq 15, 3) := by decide +kernel
theorem dX1_square_136 : decode cX1_square 136 = .ok (.aload_n 0, 1) := by decide +kernel
theorem dX1_square_137 : decode cX1_square 137 = .ok (.getfield 34, 3) := by decide +kernel
theorem dX1_square_140 : decode cX1_square 140 = .ok (.iload 7, 2) := by decide +kernel
theorem dX1_square_142 : decode cX1_square 142 = .ok (.iload 6, 2) := by decide +kernel
theorem dX1_square_144 : decode cX1_square 144 = .ok (.iastore, 1) := by decide +kernel
theorem dX1_square_145 : decode cX1_square 145 = .ok (.iinc 6 4, 3) := by decide +kernel
theorem dX1_square_148 : decode cX1_square 148 = .ok (.iinc 7 1, 3) := by decide +kernel
theorem dX1_square_151 : decode cX1_square 151 = .ok (.goto (-32), 3) := by decide +kernel
theorem dX1_square_154 : decode cX1_square 154 = .ok (.iconst 0, 1) := by decide +kernel
theorem dX1_square_155 : decode cX1_square 155 = .ok (.istore 7, 2) := by decide +kernel
theorem dX1_square_157 : decode cX1_square 157 = .ok (.iload 7, 2) := by decide +kernel
theorem dX1_square_159 : decode cX1_square 159 = .ok (.iload_n 2, 1) := by decide +kernel
theorem dX1_square_160 : decode cX1_square 160 = .ok (.if_icmp .ge 28, 3) := by decide +kernel
theorem dX1_square_163 : decode cX1_square 163 = .ok (.aload_n 1, 1) := by decide +kernel
theorem dX1_square_164 : decode cX1_square 164 = .ok (.iload 7, 2) := by decide +kernel
theorem dX1_square_166 : decode cX1_square 166 = .ok (.aload_n 0, 1) := by decide +kernel
theorem dX1_square_167 : decode cX1_square 167 = .ok (.getfield 34, 3) := by decide +kernel
theorem dX1_square_170 : decode cX1_square 170 = .ok (.aload_n 1, 1) := by decide +kernel
theorem dX1_square_171 : decode cX1_square 171 = .ok (.iload 7, 2) := by decide +kernel
theorem dX1_square_173 : decode cX1_square 173 = .ok (.iaload, 1) := by decide +kernel
theorem dX1_square_174 : decode cX1_square 174 = .ok (.iload_n 3, 1) := by decide +kernel
theorem dX1_square_175 : decode cX1_square 175 = .ok (.isub, 1) := by decide +kernel
theorem dX1_square_176 : decode cX1_square 176 = .ok (.sipush 511, 3) := by decide +kernel
theorem dX1_square_179 : decode cX1_square 179 = .ok (.iand, 1) := by decide +kernel
theorem dX1_square_180 : decode cX1_square 180 = .ok (.iaload, 1) := by decide +kernel
theorem dX1_square_181 : decode cX1_square 181 = .ok (.iastore, 1) := by decide +kernel
theorem dX1_square_182 : decode cX1_square 182 = .ok (.iinc 7 1, 3) := by decide +kernel
theorem dX1_square_185 : decode cX1_square 185 = .ok (.goto (-28), 3) := by decide +kernel
theorem dX1_square_188 : decode cX1_square 188 = .ok (.return_, 1) := by decide +kernel
abbrev rm_f_X1_square : Room := { frames := 1, cells := 0, slots := 0, locals := 21 }
def f_X1_square_L12 (q0 : Nat) (n0 : Nat) (K8 : (Int → Int → St → Option (St))) (y3 : Int) : Nat → Int → Int → Int → St → Option (St)
  | 0, _, _, _, _ => none
  | n9 + 1, x4, x5, x6, t7 =>
    cmpI x6 y3 (if x6 < y3 then (ixI x6 n0 (lt1 (t7.1 q0 x6.toNat) fun v9 =>
    cmpI x4 v9 (
    ixI x6 n0 (lt1 (t7.1 q0 x6.toNat) fun v10 =>
    cmpI x5 v10 (
    f_X1_square_L12 q0 n0 K8 y3 n9 (min x4 v9) (max x5 v10) (x6 + 1) t7)))))
    else (K8 x4 x5 t7))
def f_X1_square_L61 (K19 : (St → Option (St))) (y16 : Int) : Nat → Int → St → Option (St)
  | 0, _, _ => none
  | n9 + 1, x17, t18 =>
    cmpI x17 y16 (if x17 < y16 then (ixI x17 512 (lt1 (pI t18 377 x17.toNat 0) fun t20 =>
    f_X1_square_L61 K19 y16 n9 (x17 + 1) t20))
    else (K19 t18))
def f_X1_square_L85 (q0 : Nat) (n0 : Nat) (K27 : (St → Option (St))) (y22 : Int) (y23 : Int) : Nat → Int → St → Option (St)
  | 0, _, _ => none
  | n9 + 1, x25, t26 =>
    cmpI x25 y22 (if x25 < y22 then (ixI x25 n0 (lt1 (t26.1 q0 x25.toNat) fun v28 =>
    ixI ((v28 - y23) % 512) 512 (lt1 (pI t26 377 ((v28 - y23) % 512).toNat 1) fun t29 =>
    f_X1_square_L85 q0 n0 K27 y22 y23 n9 (x25 + 1) t29)))
    else (K27 t26))
def f_X1_square_L119 (K37 : (St → Option (St))) (y33 : Int) : Nat → Int → Int → St → Option (St)
  | 0, _, _, _ => none
  | n9 + 1, x34, x35, t36 =>
    cmpI x35 y33 (if x35 < y33 then (ixI x35 512 (lt1 (t36.1 377 x35.toNat) fun v38 =>
    jn1 (fun (j39 : Int) (t40 : St) => f_X1_square_L119 K37 y33 n9 j39 (x35 + 1) t40) fun J41 =>
    cmpI v38 0 (if v38 = 0 then (J41 x34 t36)
    else (ixI x35 512 (lt1 (pI t36 377 x35.toNat x34) fun t42 =>
    J41 (x34 + 4) t42)))))
    else (K37 t36))
def f_X1_square_L157 (q0 : Nat) (n0 : Nat) (K48 : (St → Option (St))) (y44 : Int) (y45 : Int) : Nat → Int → St → Option (St)
  | 0, _, _ => none
  | n9 + 1, x46, t47 =>
    cmpI x46 y44 (if x46 < y44 then (ixI x46 n0 (lt1 (t47.1 q0 x46.toNat) fun v49 =>
    ixI ((v49 - y45) % 512) 512 (lt1 (t47.1 377 ((v49 - y45) % 512).toNat) fun v50 =>
    ixI x46 n0 (lt1 (pI t47 q0 x46.toNat v50) fun t51 =>
    f_X1_square_L157 q0 n0 K48 y44 y45 n9 (x46 + 1) t51))))
    else (K48 t47))
def f_X1_square (N : Nat) (q0 : Nat) (n0 : Nat) (a1 : Int) (t : St) : Option (St) :=
    ixI 0 n0 (lt1 (t.1 q0 (0 : Int).toNat) fun v1 =>
    ixI 0 n0 (lt1 (t.1 q0 (0 : Int).toNat) fun v2 =>
    f_X1_square_L12 q0 n0 (fun (k11 : Int) (k12 : Int) (t13 : St) => cmpI ((k12 - k11) + 1) 512 (
    f_X1_square_L61 (fun (t21 : St) => f_X1_square_L85 q0 n0 (fun (t30 : St) => f_X1_square_L119 (fun (t43 : St) => f_X1_square_L157 q0 n0 (fun (t52 : St) => some t52) a1 k11 N 0 t43) (min ((k12 - k11) + 1) 512) N 0 0 t30) a1 k11 N 0 t21) (min ((k12 - k11) + 1) 512) N 0 t13)) a1 N v1 v2 1 t))
set_option maxHeartbeats 4000000 in
set_option maxRecDepth 100000 in
theorem t_f_X1_square_L12 {p : Program} {l : Launch} {e : Env} {s : State} {m : MethodId} {args : Array Value} {below : List Frame} {meth : Method} {c : Code} {E : cE} {A : Nat → Prop} {r : Nat → Nat} {mc ms : Nat} {z : St} {q0 n0 : Nat} (hq0 : gA shH q0 1 n0) {K8 : (Int → Int → St → Option (St))} {y3 : Int} (X : gX p s m meth c cX1_square 8 none yX1_square args E A) (hK8 : ∀ (q3 : Int) (q4 : Int) (t9 : St), K8 q3 q4 t9 = some z → gP p l e rm_f_X1_square s m args below meth c E A 8 (MQ below ((gqV E (gW E r shH) z) A) args s mc ms A) (gW E r shH) 44 [(0, .ref (r 304)), (1, .ref (r q0)), (2, iv y3), (3, iv q3), (4, iv q4)] [] t9) : ∀ (n9 : Nat) (x4 : Int) (x5 : Int) (x6 : Int) (t7 : St), f_X1_square_L12 q0 n0 K8 y3 n9 x4 x5 x6 t7 = some z → gP p l e rm_f_X1_square s m args below meth c E A 8 (MQ below ((gqV E (gW E r shH) z) A) args s mc ms A) (gW E r shH) 12 [(0, .ref (r 304)), (1, .ref (r q0)), (2, iv y3), (3, iv x4), (4, iv x5), (5, iv x6)] [] t7 := by
  intro n9
  induction n9 with
  | zero => intro x4 x5 x6 t7 h; cases h
  | succ n9 ih =>
    intro x4 x5 x6 t7 h
    unfold f_X1_square_L12 at h
    refine g_iload X dX1_square_12 5 rfl ?_
    refine g_iload_n X dX1_square_14 2 rfl ?_
    refine g_icmp_ge (tgt := 44) X dX1_square_15 (by decide) h (fun h => ?_) (fun h => ?_)
    · exact g_sub (lv' := [(0, .ref (r 304)), (1, .ref (r q0)), (2, iv y3), (3, iv x4), (4, iv x5)]) [0, 1, 2, 3, 4] rfl (hK8 x4 x5 t7 h)
    · refine g_iload_n X dX1_square_18 3 rfl ?_
      refine g_aload_n X dX1_square_19 1 rfl ?_
      refine g_iload X dX1_square_20 5 rfl ?_
      refine g_iald X hq0 dX1_square_22 h (fun v9 h => ?_)
      refine g_mmin X wdM_RX1_88 (by decide) (Nat.le_of_ble_eq_true rfl) dX1_square_23 h (fun h => ?_)
      refine g_istore_n (lv' := [(3, iv (min x4 v9)), (0, .ref (r 304)), (1, .ref (r q0)), (2, iv y3), (4, iv x5), (5, iv x6)]) X dX1_square_26 rfl (by decide) rfl ?_
      refine g_iload X dX1_square_27 4 rfl ?_
      refine g_aload_n X dX1_square_29 2 rfl ?_
      refine g_iload X dX1_square_30 5 rfl ?_
      refine g_iald X hq0 dX1_square_32 h (fun v10 h => ?_)
      refine g_mmax X wdM_RX1_66 (by decide) (Nat.le_of_ble_eq_true rfl) dX1_square_33 h (fun h => ?_)
      refine g_istore (lv' := [(4, iv (max x5 v10)), (3, iv (min x4 v9)), (0, .ref (r 304)), (1, .ref (r q0)), (2, iv y3), (5, iv x6)]) X dX1_square_36 (by decide) rfl ?_
      refine g_iinc (lv' := [(5, iv (x6 + 1)), (4, iv (max x5 v10)), (3, iv (min x4 v9)), (0, .ref (r 304)), (1, .ref (r q0)), (2, iv y3)]) X dX1_square_38 (k := 5) rfl (by decide) rfl ?_
      refine g_goto (tgt := 12) X dX1_square_41 (by decide) ?_
      exact g_sub (lv' := [(0, .ref (r 304)), (1, .ref (r q0)), (2, iv y3), (3, iv (min x4 v9)), (4, iv (max x5 v10)), (5, iv (x6 + 1))]) [3, 4, 5, 2, 1, 0] rfl (ih (min x4 v9) (max x5 v10) (x6 + 1) t7 h)
set_option maxHeartbeats 4000000 in
set_option maxRecDepth 100000 in
theorem t_f_X1_square_L61 {p : Program} {l : Launch} {e : Env} {s : State} {m : MethodId} {args : Array Value} {below : List Frame} {meth : Method} {c : Code} {E : cE} {A : Nat → Prop} {r : Nat → Nat} {mc ms : Nat} {z : St} {q0 n0 : Nat} (hq0 : gA shH q0 1 n0) {K19 : (St → Option (St))} {y14 : Int} {y15 : Int} {y16 : Int} (X : gX p s m meth c cX1_square 8 none yX1_square args E A) (hK19 : ∀ (t9 : St), K19 t9 = some z → gP p l e rm_f_X1_square s m args below meth c E A 8 (MQ below ((gqV E (gW E r shH) z) A) args s mc ms A) (gW E r shH) 82 [(0, .ref (r 304)), (1, .ref (r q0)), (2, iv y14), (3, iv y15), (5, iv y16)] [] t9) : ∀ (n9 : Nat) (x17 : Int) (t18 : St), f_X1_square_L61 K19 y16 n9 x17 t18 = some z → gP p l e rm_f_X1_square s m args below meth c E A 8 (MQ below ((gqV E (gW E r shH) z) A) args s mc ms A) (gW E r shH) 61 [(0, .ref (r 304)), (1, .ref (r q0)), (2, iv y14), (3, iv y15), (5, iv y16), (6, iv x17)] [] t18 := by
  intro n9
  induction n9 with
  | zero => intro x17 t18 h; cases h
  | succ n9 ih =>
    intro x17 t18 h
    unfold f_X1_square_L61 at h
    refine g_iload X dX1_square_61 5 rfl ?_
    refine g_iload X dX1_square_63 4 rfl ?_
    refine g_icmp_ge (tgt := 82) X dX1_square_65 (by decide) h (fun h => ?_) (fun h => ?_)
    · exact g_sub (lv' := [(0, .ref (r 304)), (1, .ref (r q0)), (2, iv y14), (3, iv y15), (5, iv y16)]) [0, 1, 2, 3, 4] rfl (hK19 t18 h)
    · refine g_aload_n X dX1_square_68 0 rfl ?_
      refine g_getR X fH_X1_34_304 rfl dX1_square_69 ?_
      refine g_iload X dX1_square_72 5 rfl ?_
      refine g_iconst X dX1_square_74 ?_
      refine g_iast X aH_377 dX1_square_75 h (fun t20 h => ?_)
      refine g_iinc (lv' := [(6, iv (x17 + 1)), (0, .ref (r 304)), (1, .ref (r q0)), (2, iv y14), (3, iv y15), (5, iv y16)]) X dX1_square_76 (k := 5) rfl (by decide) rfl ?_
      refine g_goto (tgt := 61) X dX1_square_79 (by decide) ?_
      exact g_sub (lv' := [(0, .ref (r 304)), (1, .ref (r q0)), (2, iv y14), (3, iv y15), (5, iv y16), (6, iv (x17 + 1))]) [1, 2, 3, 4, 5, 0] rfl (ih (x17 + 1) t20 h)
set_option maxHeartbeats 4000000 in
set_option maxRecDepth 100000 in
theorem t_f_X1_square_L85 {p : Program} {l : Launch} {e : Env} {s : State} {m : MethodId} {args : Array Value} {below : List Frame} {meth : Method} {c : Code} {E : cE} {A : Nat → Prop} {r : Nat → Nat} {mc ms : Nat} {z : St} {q0 n0 : Nat} (hq0 : gA shH q0 1 n0) {K27 : (St → Option (St))} {y22 : Int} {y23 : Int} {y24 : Int} (X : gX p s m meth c cX1_square 8 none yX1_square args E A) (hK27 : ∀ (t9 : St), K27 t9 = some z → gP p l e rm_f_X1_square s m args below meth c E A 8 (MQ below ((gqV E (gW E r shH) z) A) args s mc ms A) (gW E r shH) 113 [(0, .ref (r 304)), (1, .ref (r q0)), (2, iv y22), (3, iv y23), (5, iv y24)] [] t9) : ∀ (n9 : Nat) (x25 : Int) (t26 : St), f_X1_square_L85 q0 n0 K27 y22 y23 n9 x25 t26 = some z → gP p l e rm_f_X1_square s m args below meth c E A 8 (MQ below ((gqV E (gW E r shH) z) A) args s mc ms A) (gW E r shH) 85 [(0, .ref (r 304)), (1, .ref (r q0)), (2, iv y22), (3, iv y23), (5, iv y24), (6, iv x25)] [] t26 := by
  intro n9
  induction n9 with
  | zero => intro x25 t26 h; cases h
  | succ n9 ih =>
    intro x25 t26 h
    unfold f_X1_square_L85 at h
    refine g_iload X dX1_square_85 5 rfl ?_
    refine g_iload_n X dX1_square_87 2 rfl ?_
    refine g_icmp_ge (tgt := 113) X dX1_square_88 (by decide) h (fun h => ?_) (fun h => ?_)
    · exact g_sub (lv' := [(0, .ref (r 304)), (1, .ref (r q0)), (2, iv y22), (3, iv y23), (5, iv y24)]) [0, 1, 2, 3, 4] rfl (hK27 t26 h)
    · refine g_aload_n X dX1_square_91 0 rfl ?_
      refine g_getR X fH_X1_34_304 rfl dX1_square_92 ?_
      refine g_aload_n X dX1_square_95 1 rfl ?_
      refine g_iload X dX1_square_96 5 rfl ?_
      refine g_iald X hq0 dX1_square_98 h (fun v28 h => ?_)
      refine g_iload_n X dX1_square_99 3 rfl ?_
      refine g_isub X dX1_square_100 ?_
      refine g_sipush X dX1_square_101 (by decide) ?_
      refine g_mask X 9 (by decide) (M := 512) (by decide) (by decide) dX1_square_104 ?_
      refine g_iconst X dX1_square_105 ?_
      refine g_iast X aH_377 dX1_square_106 h (fun t29 h => ?_)
      refine g_iinc (lv' := [(6, iv (x25 + 1)), (0, .ref (r 304)), (1, .ref (r q0)), (2, iv y22), (3, iv y23), (5, iv y24)]) X dX1_square_107 (k := 5) rfl (by decide) rfl ?_
      refine g_goto (tgt := 85) X dX1_square_110 (by decide) ?_
      exact g_sub (lv' := [(0, .ref (r 304)), (1, .ref (r q0)), (2, iv y22), (3, iv y23), (5, iv y24), (6, iv (x25 + 1))]) [1, 2, 3, 4, 5, 0] rfl (ih (x25 + 1) t29 h)
set_option maxHeartbeats 4000000 in
set_option maxRecDepth 100000 in
theorem t_f_X1_square_L119 {p : Program} {l : Launch} {e : Env} {s : State} {m : MethodId} {args : Array Value} {below : List Frame} {meth : Method} {c : Code} {E : cE} {A : Nat → Prop} {r : Nat → Nat} {mc ms : Nat} {z : St} {q0 n0 : Nat} (hq0 : gA shH q0 1 n0) {K37 : (St → Option (St))} {y31 : Int} {y32 : Int} {y33 : Int} (X : gX p s m meth c cX1_square 8 none yX1_square args E A) (hK37 : ∀ (t9 : St), K37 t9 = some z → gP p l e rm_f_X1_square s m args below meth c E A 8 (MQ below ((gqV E (gW E r shH) z) A) args s mc ms A) (gW E r shH) 154 [(0, .ref (r 304)), (1, .ref (r q0)), (2, iv y31), (3, iv y32)] [] t9) : ∀ (n9 : Nat) (x34 : Int) (x35 : Int) (t36 : St), f_X1_square_L119 K37 y33 n9 x34 x35 t36 = some z → gP p l e rm_f_X1_square s m args below meth c E A 8 (MQ below ((gqV E (gW E r shH) z) A) args s mc ms A) (gW E r shH) 119 [(0, .ref (r 304)), (1, .ref (r q0)), (2, iv y31), (3, iv y32), (5, iv y33), (6, iv x34), (7, iv x35)] [] t36 := by
  intro n9
  induction n9 with
  | zero => intro x34 x35 t36 h; cases h
  | succ n9 ih =>
    intro x34 x35 t36 h
    unfold f_X1_square_L119 at h
    refine g_iload X dX1_square_119 6 rfl ?_
    refine g_iload X dX1_square_121 4 rfl ?_
    refine g_icmp_ge (tgt := 154) X dX1_square_123 (by decide) h (fun h => ?_) (fun h => ?_)
    · exact g_sub (lv' := [(0, .ref (r 304)), (1, .ref (r q0)), (2, iv y31), (3, iv y32)]) [0, 1, 2, 3] rfl (hK37 t36 h)
    · refine g_aload_n X dX1_square_126 0 rfl ?_
      refine g_getR X fH_X1_34_304 rfl dX1_square_127 ?_
      refine g_iload X dX1_square_130 6 rfl ?_
      refine g_iald X aH_377 dX1_square_132 h (fun v38 h => ?_)
      refine g_join (J := fun jj => ∀ (j39 : Int) (t40 : St), jj j39 t40 = some z → gP p l e rm_f_X1_square s m args below meth c E A 8 (MQ below ((gqV E (gW E r shH) z) A) args s mc ms A) (gW E r shH) 148 [(0, .ref (r 304)), (1, .ref (r q0)), (2, iv y31), (3, iv y32), (5, iv y33), (6, iv j39), (7, iv x35)] [] t40) h (fun j39 t40 h => ?_) (fun J41 hJ41 h => ?_)
      · refine g_iinc (lv' := [(7, iv (x35 + 1)), (0, .ref (r 304)), (1, .ref (r q0)), (2, iv y31), (3, iv y32), (5, iv y33), (6, iv j39)]) X dX1_square_148 (k := 6) rfl (by decide) rfl ?_
        refine g_goto (tgt := 119) X dX1_square_151 (by decide) ?_
        exact g_sub (lv' := [(0, .ref (r 304)), (1, .ref (r q0)), (2, iv y31), (3, iv y32), (5, iv y33), (6, iv j39), (7, iv (x35 + 1))]) [1, 2, 3, 4, 5, 6, 0] rfl (ih j39 (x35 + 1) t40 h)
      refine g_if_eq (tgt := 148) X dX1_square_133 (by decide) h (fun h => ?_) (fun h => ?_)
      · exact g_sub (lv' := [(0, .ref (r 304)), (1, .ref (r q0)), (2, iv y31), (3, iv y32), (5, iv y33), (6, iv x34), (7, iv x35)]) [0, 1, 2, 3, 4, 5, 6] rfl (hJ41 x34 t36 h)
      · refine g_aload_n X dX1_square_136 0 rfl ?_
        refine g_getR X fH_X1_34_304 rfl dX1_square_137 ?_
        refine g_iload X dX1_square_140 6 rfl ?_
        refine g_iload X dX1_square_142 5 rfl ?_
        refine g_iast X aH_377 dX1_square_144 h (fun t42 h => ?_)
        refine g_iinc (lv' := [(6, iv (x34 + 4)), (0, .ref (r 304)), (1, .ref (r q0)), (2, iv y31), (3, iv y32), (5, iv y33), (7, iv x35)]) X dX1_square_145 (k := 5) rfl (by decide) rfl ?_
        exact g_sub (lv' := [(0, .ref (r 304)), (1, .ref (r q0)), (2, iv y31), (3, iv y32), (5, iv y33), (6, iv (x34 + 4)), (7, iv x35)]) [1, 2, 3, 4, 5, 0, 6] rfl (hJ41 (x34 + 4) t42 h)
set_option maxHeartbeats 4000000 in
set_option maxRecDepth 100000 in
theorem t_f_X1_square_L157 {p : Program} {l : Launch} {e : Env} {s : State} {m : MethodId} {args : Array Value} {below : List Frame} {meth : Method} {c : Code} {E : cE} {A : Nat → Prop} {r : Nat → Nat} {mc ms : Nat} {z : St} {q0 n0 : Nat} (hq0 : gA shH q0 1 n0) {K48 : (St → Option (St))} {y44 : Int} {y45 : Int} (X : gX p s m meth c cX1_square 8 none yX1_square args E A) (hK48 : ∀ (t9 : St), K48 t9 = some z → gP p l e rm_f_X1_square s m args below meth c E A 8 (MQ below ((gqV E (gW E r shH) z) A) args s mc ms A) (gW E r shH) 188 [] [] t9) : ∀ (n9 : Nat) (x46 : Int) (t47 : St), f_X1_square_L157 q0 n0 K48 y44 y45 n9 x46 t47 = some z → gP p l e rm_f_X1_square s m args below meth c E A 8 (MQ below ((gqV E (gW E r shH) z) A) args s mc ms A) (gW E r shH) 157 [(0, .ref (r 304)), (1, .ref (r q0)), (2, iv y44), (3, iv y45), (7, iv x46)] [] t47 := by
  intro n9
  induction n9 with
  | zero => intro x46 t47 h; cases h
  | succ n9 ih =>
    intro x46 t47 h
    unfold f_X1_square_L157 at h
    refine g_iload X dX1_square_157 4 rfl ?_
    refine g_iload_n X dX1_square_159 2 rfl ?_
    refine g_icmp_ge (tgt := 188) X dX1_square_160 (by decide) h (fun h => ?_) (fun h => ?_)
    · exact g_sub (lv' := []) [] rfl (hK48 t47 h)
    · refine g_aload_n X dX1_square_163 1 rfl ?_
      refine g_iload X dX1_square_164 4 rfl ?_
      refine g_aload_n X dX1_square_166 0 rfl ?_
      refine g_getR X fH_X1_34_304 rfl dX1_square_167 ?_
      refine g_aload_n X dX1_square_170 1 rfl ?_
      refine g_iload X dX1_square_171 4 rfl ?_
      refine g_iald X hq0 dX1_square_173 h (fun v49 h => ?_)
      refine g_iload_n X dX1_square_174 3 rfl ?_
      refine g_isub X dX1_square_175 ?_
      refine g_sipush X dX1_square_176 (by decide) ?_
      refine g_mask X 9 (by decide) (M := 512) (by decide) (by decide) dX1_square_179 ?_
      refine g_iald X aH_377 dX1_square_180 h (fun v50 h => ?_)
      refine g_iast X hq0 dX1_square_181 h (fun t51 h => ?_)
      refine g_iinc (lv' := [(7, iv (x46 + 1)), (0, .ref (r 304)), (1, .ref (r q0)), (2, iv y44), (3, iv y45)]) X dX1_square_182 (k := 4) rfl (by decide) rfl ?_
      refine g_goto (tgt := 157) X dX1_square_185 (by decide) ?_
      exact g_sub (lv' := [(0, .ref (r 304)), (1, .ref (r q0)), (2, iv y44), (3, iv y45), (7, iv (x46 + 1))]) [1, 2, 3, 4, 0] rfl (ih (x46 + 1) t51 h)
set_option maxHeartbeats 4000000 in
set_option maxRecDepth 100000 in
theorem b_f_X1_square {p : Program} {l : Launch} {e : Env} {s : State} {m : MethodId} {args : Array Value} {below : List Frame} {meth : Method} {c : Code} {E : cE} {A : Nat → Prop} {r : Nat → Nat} {mc ms : Nat} {z : St} {N : Nat} {q0 n0 : Nat} (hq0 : gA shH q0 1 n0) {a1 : Int} {t : St} (X : gX p s m meth c cX1_square 8 none yX1_square args E A) (h : f_X1_square N q0 n0 a1 t = some z) : gP p l e rm_f_X1_square s m args below meth c E A 8 (MQ below ((gqV E (gW E r shH) z) A) args s mc ms A) (gW E r shH) 0 [(0, .ref (r 304)), (1, .ref (r q0)), (2, iv a1)] [] t := by
  unfold f_X1_square at h
  refine g_aload_n X dX1_square_0 1 rfl ?_
  refine g_iconst X dX1_square_1 ?_
  refine g_iald X hq0 dX1_square_2 h (fun v1 h => ?_)
  refine g_istore_n (lv' := [(3, iv v1), (0, .ref (r 304)), (1, .ref (r q0)), (2, iv a1)]) X dX1_square_3 rfl (by decide) rfl ?_
  refine g_aload_n X dX1_square_4 2 rfl ?_
  refine g_iconst X dX1_square_5 ?_
  refine g_iald X hq0 dX1_square_6 h (fun v2 h => ?_)
  refine g_istore (lv' := [(4, iv v2), (3, iv v1), (0, .ref (r 304)), (1, .ref (r q0)), (2, iv a1)]) X dX1_square_7 (by decide) rfl ?_
  refine g_iconst X dX1_square_9 ?_
  refine g_istore (lv' := [(5, iv 1), (4, iv v2), (3, iv v1), (0, .ref (r 304)), (1, .ref (r q0)), (2, iv a1)]) X dX1_square_10 (by decide) rfl ?_
  refine g_sub (lv' := [(0, .ref (r 304)), (1, .ref (r q0)), (2, iv a1), (3, iv v1), (4, iv v2), (5, iv 1)]) [3, 4, 5, 2, 1, 0] rfl (t_f_X1_square_L12 hq0 X (fun k11 k12 t13 h => ?_) N v1 v2 1 t h)
  · refine g_iload X dX1_square_44 4 rfl ?_
    refine g_iload_n X dX1_square_46 3 rfl ?_
    refine g_isub X dX1_square_47 ?_
    refine g_iconst X dX1_square_48 ?_
    refine g_iadd X dX1_square_49 ?_
    refine g_sipush X dX1_square_50 (by decide) ?_
    refine g_mmin X wdM_RX1_88 (by decide) (Nat.le_of_ble_eq_true rfl) dX1_square_53 h (fun h => ?_)
    refine g_istore (lv' := [(5, iv (min ((k12 - k11) + 1) 512)), (0, .ref (r 304)), (1, .ref (r q0)), (2, iv a1), (3, iv k11), (4, iv k12)]) X dX1_square_56 (by decide) rfl ?_
    refine g_iconst X dX1_square_58 ?_
    refine g_istore (lv' := [(6, iv 0), (5, iv (min ((k12 - k11) + 1) 512)), (0, .ref (r 304)), (1, .ref (r q0)), (2, iv a1), (3, iv k11), (4, iv k12)]) X dX1_square_59 (by decide) rfl ?_
    refine g_sub (lv' := [(0, .ref (r 304)), (1, .ref (r q0)), (2, iv a1), (3, iv k11), (5, iv (min ((k12 - k11) + 1) 512)), (6, iv 0)]) [2, 3, 4, 5, 1, 0] rfl (t_f_X1_square_L61 hq0 X (fun t21 h => ?_) N 0 t13 h)
    · refine g_iconst X dX1_square_82 ?_
      refine g_istore (lv' := [(6, iv 0), (0, .ref (r 304)), (1, .ref (r q0)), (2, iv a1), (3, iv k11), (5, iv (min ((k12 - k11) + 1) 512))]) X dX1_square_83 (by decide) rfl ?_
      refine g_sub (lv' := [(0, .ref (r 304)), (1, .ref (r q0)), (2, iv a1), (3, iv k11), (5, iv (min ((k12 - k11) + 1) 512)), (6, iv 0)]) [1, 2, 3, 4, 5, 0] rfl (t_f_X1_square_L85 hq0 X (fun t30 h => ?_) N 0 t21 h)
      · refine g_iconst X dX1_square_113 ?_
        refine g_istore (lv' := [(6, iv 0), (0, .ref (r 304)), (1, .ref (r q0)), (2, iv a1), (3, iv k11), (5, iv (min ((k12 - k11) + 1) 512))]) X dX1_square_114 (by decide) rfl ?_
        refine g_iconst X dX1_square_116 ?_
        refine g_istore (lv' := [(7, iv 0), (6, iv 0), (0, .ref (r 304)), (1, .ref (r q0)), (2, iv a1), (3, iv k11), (5, iv (min ((k12 - k11) + 1) 512))]) X dX1_square_117 (by decide) rfl ?_
        refine g_sub (lv' := [(0, .ref (r 304)), (1, .ref (r q0)), (2, iv a1), (3, iv k11), (5, iv (min ((k12 - k11) + 1) 512)), (6, iv 0), (7, iv 0)]) [2, 3, 4, 5, 6, 1, 0] rfl (t_f_X1_square_L119 hq0 X (fun t43 h => ?_) N 0 0 t30 h)
        · refine g_iconst X dX1_square_154 ?_
          refine g_istore (lv' := [(7, iv 0), (0, .ref (r 304)), (1, .ref (r q0)), (2, iv a1), (3, iv k11)]) X dX1_square_155 (by decide) rfl ?_
          refine g_sub (lv' := [(0, .ref (r 304)), (1, .ref (r q0)), (2, iv a1), (3, iv k11), (7, iv 0)]) [1, 2, 3, 4, 0] rfl (t_f_X1_square_L157 hq0 X (fun t52 h => ?_) N 0 t43 h)
          · exact g_vret X h dX1_square_188
set_option maxHeartbeats 4000000 in
set_option maxRecDepth 100000 in
theorem cp_X1_square (l : Launch) (E : cE) (r : Nat → Nat) (N : Nat) (q0 n0 : Nat) (hq0 : gA shH q0 1 n0) (a1 : Int) (t : St) (z : St) (h : f_X1_square N q0 n0 a1 t = some z) : cM l E yX1_square cX1_square 8 none rm_f_X1_square [.ref (r 304), .ref (r q0), iv a1] (gW E r shH t) (gqV E (gW E r shH) z) := by
  refine g_of (w := gW E r shH) (by decide) (Nat.le_of_ble_eq_true rfl) ?_
  intro p e s m below meth c A X
  exact g_sub (lv' := [(0, .ref (r 304)), (1, .ref (r q0)), (2, iv a1)]) [0, 1, 2] rfl (b_f_X1_square hq0 X h)
theorem yy_X1_square : cY yX1_square cX1_square 8 none 2 := ⟨wdK_X1_square, wdZ_RX1, by decide +kernel⟩
theorem yi_X1_square : cYi yX1_square := ⟨wdN_X1_square, wdS_X1_square⟩
theorem dX1_land_0 : decode cX1_land 0 = .ok (.aload_n 0, 1) := by decide +kernel
theorem dX1_land_1 : decode cX1_land 1 = .ok (.aload_n 0, 1) := by decide +kernel
theorem dX1_land_2 : decode cX1_land 2 = .ok (.getfield 22, 3) := by decide +kernel
theorem dX1_land_5 : decode cX1_land 5 = .ok (.iload_n 1, 1) := by decide +kernel
theorem dX1_land_6 : decode cX1_land 6 = .ok (.invokevirtual 232, 3) := by decide +kernel
theorem dX1_land_9 : decode cX1_land 9 = .ok (.aload_n 0, 1) := by decide +kernel
theorem dX1_land_10 : decode cX1_land 10 = .ok (.aload_n 0, 1) := by decide +kernel
theorem dX1_land_11 : decode cX1_land 11 = .ok (.getfield 25, 3) := by decide +kernel
theorem dX1_land_14 : decode cX1_land 14 = .ok (.iload_n 1, 1) := by decide +kernel
theorem dX1_land_15 : decode cX1_land 15 = .ok (.invokevirtual 232, 3) := by decide +kernel
theorem dX1_land_18 : decode cX1_land 18 = .ok (.aload_n 0, 1) := by decide +kernel
theorem dX1_land_19 : decode cX1_land 19 = .ok (.iconst 0, 1) := by decide +kernel
theorem dX1_land_20 : decode cX1_land 20 = .ok (.iconst (-1), 1) := by decide +kernel
theorem dX1_land_21 : decode cX1_land 21 = .ok (.iconst (-1), 1) := by decide +kernel
theorem dX1_land_22 : decode cX1_land 22 = .ok (.invokevirtual 173, 3) := by decide +kernel
theorem dX1_land_25 : decode cX1_land 25 = .ok (.pop, 1) := by decide +kernel
theorem dX1_land_26 : decode cX1_land 26 = .ok (.aload_n 0, 1) := by decide +kernel
theorem dX1_land_27 : decode cX1_land 27 = .ok (.dup, 1) := by decide +kernel
theorem dX1_land_28 : decode cX1_land 28 = .ok (.getfield 235, 3) := by decide +kernel
theorem dX1_land_31 : decode cX1_land 31 = .ok (.bipush 64, 2) := by decide +kernel
theorem dX1_land_33 : decode cX1_land 33 = .ok (.iadd, 1) := by decide +kernel
theorem dX1_land_34 : decode cX1_land 34 = .ok (.putfield 235, 3) := by decide +kernel
theorem dX1_land_37 : decode cX1_land 37 = .ok (.iconst 0, 1) := by decide +kernel
theorem dX1_land_38 : decode cX1_land 38 = .ok (.istore_n 2, 1) := by decide +kernel
theorem dX1_land_39 : decode cX1_land 39 = .ok (.iload_n 2, 1) := by decide +kernel
theorem dX1_land_40 : decode cX1_land 40 = .ok (.iload_n 1, 1) := by decide +kernel
theorem dX1_land_41 : decode cX1_land 41 = .ok (.if_icmp .ge 116, 3) := by decide +kernel
theorem dX1_land_44 : decode cX1_land 44 = .ok (.aload_n 0, 1) := by decide +kernel
theorem dX1_land_45 : decode cX1_land 45 = .ok (.getfield 31, 3) := by decide +kernel
theorem dX1_land_48 : decode cX1_land 48 = .ok (.iload_n 2, 1) := by decide +kernel
theorem dX1_land_49 : decode cX1_land 49 = .ok (.aload_n 0, 1) := by decide +kernel
theorem dX1_land_50 : decode cX1_land 50 = .ok (.getfield 22, 3) := by decide +kernel
theorem dX1_land_53 : decode cX1_land 53 = .ok (.iload_n 2, 1) := by decide +kernel
theorem dX1_land_54 : decode cX1_land 54 = .ok (.iaload, 1) := by decide +kernel
theorem dX1_land_55 : decode cX1_land 55 = .ok (.aload_n 0, 1) := by decide +kernel
theorem dX1_land_56 : decode cX1_land 56 = .ok (.getfield 25, 3) := by decide +kernel
theorem dX1_land_59 : decode cX1_land 59 = .ok (.iload_n 2, 1) := by decide +kernel
theorem dX1_land_60 : decode cX1_land 60 = .ok (.iaload, 1) := by decide +kernel
theorem dX1_land_61 : decode cX1_land 61 = .ok (.aload_n 0, 1) := by decide +kernel
theorem dX1_land_62 : decode cX1_land 62 = .ok (.getfield 31, 3) := by decide +kernel
theorem dX1_land_65 : decode cX1_land 65 = .ok (.iload_n 2, 1) := by decide +kernel
theorem dX1_land_66 : decode cX1_land 66 = .ok (.iaload, 1) := by decide +kernel
theorem dX1_land_67 : decode cX1_land 67 = .ok (.aload_n 0, 1) := by decide +kernel
theorem dX1_land_68 : decode cX1_land 68 = .ok (.getfield 28, 3) := by decide +kernel
theorem dX1_land_71 : decode cX1_land 71 = .ok (.iload_n 2, 1) := by decide +kernel
theorem dX1_land_72 : decode cX1_land 72 = .ok (.iaload, 1) := by decide +kernel
theorem dX1_land_73 : decode cX1_land 73 = .ok (.iadd, 1) := by decide +kernel
theorem dX1_land_74 : decode cX1_land 74 = .ok (.iconst 3, 1) := by decide +kernel
theorem dX1_land_75 : decode cX1_land 75 = .ok (.iand, 1) := by decide +kernel
theorem dX1_land_76 : decode cX1_land 76 = .ok (.invokestatic 238, 3) := by decide +kernel
theorem dX1_land_79 : decode cX1_land 79 = .ok (.iastore, 1) := by decide +kernel
theorem dX1_land_80 : decode cX1_land 80 = .ok (.aload_n 0, 1) := by decide +kernel
theorem dX1_land_81 : decode cX1_land 81 = .ok (.getfield 31, 3) := by decide +kernel
theorem dX1_land_84 : decode cX1_land 84 = .ok (.iload_n 2, 1) := by decide +kernel
theorem dX1_land_85 : decode cX1_land 85 = .ok (.iaload, 1) := by decide +kernel
theorem dX1_land_86 : decode cX1_land 86 = .ok (.iconst 2, 1) := by decide +kernel
theorem dX1_land_87 : decode cX1_land 87 = .ok (.ishr, 1) := by decide +kernel
theorem dX1_land_88 : decode cX1_land 88 = .ok (.sipush 4095, 3) := by decide +kernel
theorem dX1_land_91 : decode cX1_land 91 = .ok (.iand, 1) := by decide +kernel
theorem dX1_land_92 : decode cX1_land 92 = .ok (.istore_n 3, 1) := by decide +kernel
theorem dX1_land_93 : decode cX1_land 93 = .ok (.aload_n 0, 1) := by decide +kernel
theorem dX1_land_94 : decode cX1_land 94 = .ok (.getfield 37, 3) := by decide +kernel
theorem dX1_land_97 : decode cX1_land 97 = .ok (.iload_n 3, 1) := by decide +kernel
theorem dX1_land_98 : decode cX1_land 98 = .ok (.iaload, 1) := by decide +kernel
theorem dX1_land_99 : decode cX1_land 99 = .ok (.aload_n 0, 1) := by decide +kernel
theorem dX1_land_100 : decode cX1_land 100 = .ok (.getfield 235, 3) := by decide +kernel
theorem dX1_land_103 : decode cX1_land 103 = .ok (.isub, 1) := by decide +kernel
theorem dX1_land_104 : decode cX1_land 104 = .ok (.istore 4, 2) := by decide +kernel
theorem dX1_land_106 : decode cX1_land 106 = .ok (.iload 4, 2) := by decide +kernel
theorem dX1_land_108 : decode cX1_land 108 = .ok (.ifCond .ge 18, 3) := by decide +kernel
theorem dX1_land_111 : decode cX1_land 111 = .ok (.aload_n 0, 1) := by decide +kernel
theorem dX1_land_112 : decode cX1_land 112 = .ok (.getfield 37, 3) := by decide +kernel
theorem dX1_land_115 : decode cX1_land 115 = .ok (.iload_n 3, 1) := by decide +kernel
theorem dX1_land_116 : decode cX1_land 116 = .ok (.aload_n 0, 1) := by decide +kernel
theorem dX1_land_117 : decode cX1_land 117 = .ok (.getfield 235, 3) := by decide +kernel
theorem dX1_land_120 : decode cX1_land 120 = .ok (.iload_n 2, 1) := by decide +kernel
theorem dX1_land_121 : decode cX1_land 121 = .ok (.iadd, 1) := by decide +kernel
theorem dX1_land_122 : decode cX1_land 122 = .ok (.iastore, 1) := by decide +kernel
theorem dX1_land_123 : decode cX1_land 123 = .ok (.goto 28, 3) := by decide +kernel
theorem dX1_land_126 : decode cX1_land 126 = .ok (.aload_n 0, 1) := by decide +kernel
theorem dX1_land_127 : decode cX1_land 127 = .ok (.getfield 143, 3) := by decide +kernel
theorem dX1_land_130 : decode cX1_land 130 = .ok (.ifCond .eq 12, 3) := by decide +kernel
theorem dX1_land_133 : decode cX1_land 133 = .ok (.iload 4, 2) := by decide +kernel
theorem dX1_land_135 : decode cX1_land 135 = .ok (.aload_n 0, 1) := by decide +kernel
theorem dX1_land_136 : decode cX1_land 136 = .ok (.getfield 167, 3) := by decide +kernel
theorem dX1_land_139 : decode cX1_land 139 = .ok (.if_icmp .ge 12, 3) := by decide +kernel
theorem dX1_land_142 : decode cX1_land 142 = .ok (.aload_n 0, 1) := by decide +kernel
theorem dX1_land_143 : decode cX1_land 143 = .ok (.iconst 5, 1) := by decide +kernel
theorem dX1_land_144 : decode cX1_land 144 = .ok (.iload 4, 2) := by decide +kernel
theorem dX1_land_146 : decode cX1_land 146 = .ok (.iload_n 2, 1) := by decide +kernel
theorem dX1_land_147 : decode cX1_land 147 = .ok (.invokevirtual 173, 3) := by decide +kernel
theorem dX1_land_150 : decode cX1_land 150 = .ok (.pop, 1) := by decide +kernel
theorem dX1_land_151 : decode cX1_land 151 = .ok (.iinc 2 1, 3) := by decide +kernel
theorem dX1_land_154 : decode cX1_land 154 = .ok (.goto (-115), 3) := by decide +kernel
theorem dX1_land_157 : decode cX1_land 157 = .ok (.aload_n 0, 1) := by decide +kernel
theorem dX1_land_158 : decode cX1_land 158 = .ok (.getfield 143, 3) := by decide +kernel
theorem dX1_land_161 : decode cX1_land 161 = .ok (.ireturn, 1) := by decide +kernel
abbrev rm_f_X1_land : Room := { frames := 2, cells := 0, slots := 0, locals := 48 }
def f_X1_land_L39 (N : Nat) (K10 : (St → Option (Int × St))) (y7 : Int) : Nat → Int → St → Option (Int × St)
  | 0, _, _ => none
  | n9 + 1, x8, t9 =>
    cmpI x8 y7 (if x8 < y7 then (ixI x8 64 (lt1 (t9.1 373 x8.toNat) fun v11 =>
    ixI x8 64 (lt1 (t9.1 374 x8.toNat) fun v12 =>
    ixI x8 64 (lt1 (t9.1 376 x8.toNat) fun v13 =>
    ixI x8 64 (lt1 (t9.1 375 x8.toNat) fun v14 =>
    bdI (f_X3_codeOf N v11 v12 ((v13 + v14) % 4) t9) fun v16 t15 =>
    ixI x8 64 (lt1 (pI t15 376 x8.toNat v16) fun t17 =>
    ixI x8 64 (lt1 (t17.1 376 x8.toNat) fun v18 =>
    rnI v18 (
    ixI ((v18 / 4) % 4096) 4096 (lt1 (t17.1 378 ((v18 / 4) % 4096).toNat) fun v19 =>
    lt1 (t17.1 304 11) fun v20 =>
    jn1 (fun (t21 : St) => f_X1_land_L39 N K10 y7 n9 (x8 + 1) t21) fun J22 =>
    cmpI (v19 - v20) 0 (if (v19 - v20) < 0 then (lt1 (t17.1 304 11) fun v29 =>
    ixI ((v18 / 4) % 4096) 4096 (lt1 (pI t17 378 ((v18 / 4) % 4096).toNat (v29 + x8)) fun t30 =>
    J22 t30))
    else (lt1 (t17.1 304 14) fun v23 =>
    jn1 (fun (t24 : St) => bdI (f_X1_blame N 5 (v19 - v20) x8 t24) fun v27 t26 =>
    J22 t26) fun J25 =>
    cmpI v23 0 (if v23 = 0 then (J25 t17)
    else (lt1 (t17.1 304 15) fun v28 =>
    cmpI (v19 - v20) v28 (if (v19 - v20) < v28 then (J25 t17)
    else (J22 t17)))))))))))))))
    else (K10 t9))
def f_X1_land (N : Nat) (a0 : Int) (t : St) : Option (Int × St) :=
    bdV (f_X1_square N 373 64 a0 t) fun t1 =>
    bdV (f_X1_square N 374 64 a0 t1) fun t2 =>
    bdI (f_X1_blame N 0 (-1) (-1) t2) fun v4 t3 =>
    lt1 (t3.1 304 11) fun v5 =>
    lt1 (pI t3 304 11 (v5 + 64)) fun t6 =>
    f_X1_land_L39 N (fun (t31 : St) => lt1 (t31.1 304 14) fun v32 =>
    some (v32, t31)) a0 N 0 t6
set_option maxHeartbeats 4000000 in
set_option maxRecDepth 100000 in
theorem t_f_X1_land_L39 {p : Program} {l : Launch} {e : Env} {s : State} {m : MethodId} {args : Array Value} {below : List Frame} {meth : Method} {c : Code} {E : cE} {A : Nat → Prop} {r : Nat → Nat} {mc ms : Nat} {z : Int × St} {N : Nat} {K10 : (St → Option (Int × St))} {y7 : Int} (X : gX p s m meth c cX1_land 5 (some .int) yX1_land args E A) (hK10 : ∀ (t9 : St), K10 t9 = some z → gP p l e rm_f_X1_land s m args below meth c E A 5 (MQ below ((gqI E (gW E r shH) z) A) args s mc ms A) (gW E r shH) 157 [(0, .ref (r 304))] [] t9) : ∀ (n9 : Nat) (x8 : Int) (t9 : St), f_X1_land_L39 N K10 y7 n9 x8 t9 = some z → gP p l e rm_f_X1_land s m args below meth c E A 5 (MQ below ((gqI E (gW E r shH) z) A) args s mc ms A) (gW E r shH) 39 [(0, .ref (r 304)), (1, iv y7), (2, iv x8)] [] t9 := by
  intro n9
  induction n9 with
  | zero => intro x8 t9 h; cases h
  | succ n9 ih =>
    intro x8 t9 h
    unfold f_X1_land_L39 at h
    refine g_iload_n X dX1_land_39 2 rfl ?_
    refine g_iload_n X dX1_land_40 1 rfl ?_
    refine g_icmp_ge (tgt := 157) X dX1_land_41 (by decide) h (fun h => ?_) (fun h => ?_)
    · exact g_sub (lv' := [(0, .ref (r 304))]) [0] rfl (hK10 t9 h)
    · refine g_aload_n X dX1_land_44 0 rfl ?_
      refine g_getR X fH_X1_31_304 rfl dX1_land_45 ?_
      refine g_iload_n X dX1_land_48 2 rfl ?_
      refine g_aload_n X dX1_land_49 0 rfl ?_
      refine g_getR X fH_X1_22_304 rfl dX1_land_50 ?_
      refine g_iload_n X dX1_land_53 2 rfl ?_
      refine g_iald X aH_373 dX1_land_54 h (fun v11 h => ?_)
      refine g_aload_n X dX1_land_55 0 rfl ?_
      refine g_getR X fH_X1_25_304 rfl dX1_land_56 ?_
      refine g_iload_n X dX1_land_59 2 rfl ?_
      refine g_iald X aH_374 dX1_land_60 h (fun v12 h => ?_)
      refine g_aload_n X dX1_land_61 0 rfl ?_
      refine g_getR X fH_X1_31_304 rfl dX1_land_62 ?_
      refine g_iload_n X dX1_land_65 2 rfl ?_
      refine g_iald X aH_376 dX1_land_66 h (fun v13 h => ?_)
      refine g_aload_n X dX1_land_67 0 rfl ?_
      refine g_getR X fH_X1_28_304 rfl dX1_land_68 ?_
      refine g_iload_n X dX1_land_71 2 rfl ?_
      refine g_iald X aH_375 dX1_land_72 h (fun v14 h => ?_)
      refine g_iadd X dX1_land_73 ?_
      refine g_iconst X dX1_land_74 ?_
      refine g_mask X 2 (by decide) (M := 4) (by decide) (by decide) dX1_land_75 ?_
      refine g_callsI (rest := [iv x8, .ref (r 376)]) X (fun u9 h9 => cp_X3_codeOf l E r N v11 v12 ((v13 + v14) % 4) t9 u9 h9) yy_X3_codeOf wdT_X3_codeOf wdM_RX1_238 rfl rfl (Nat.le_of_ble_eq_true rfl) dX1_land_76 ⟨by decide, by decide⟩ ⟨rfl, rfl⟩ h (fun v16 t15 h => ?_)
      refine g_iast X aH_376 dX1_land_79 h (fun t17 h => ?_)
      refine g_aload_n X dX1_land_80 0 rfl ?_
      refine g_getR X fH_X1_31_304 rfl dX1_land_81 ?_
      refine g_iload_n X dX1_land_84 2 rfl ?_
      refine g_iald X aH_376 dX1_land_85 h (fun v18 h => ?_)
      refine g_iconst X dX1_land_86 ?_
      refine g_shr X 2 (by decide) (M := 4) (by decide) (by decide) dX1_land_87 h (fun h => ?_)
      refine g_sipush X dX1_land_88 (by decide) ?_
      refine g_mask X 12 (by decide) (M := 4096) (by decide) (by decide) dX1_land_91 ?_
      refine g_istore_n (lv' := [(3, iv ((v18 / 4) % 4096)), (0, .ref (r 304)), (1, iv y7), (2, iv x8)]) X dX1_land_92 rfl (by decide) rfl ?_
      refine g_aload_n X dX1_land_93 1 rfl ?_
      refine g_getR X fH_X1_37_304 rfl dX1_land_94 ?_
      refine g_iload_n X dX1_land_97 0 rfl ?_
      refine g_iald X aH_378 dX1_land_98 h (fun v19 h => ?_)
      refine g_aload_n X dX1_land_99 1 rfl ?_
      refine g_getI X fH_X1_235_304 rfl dX1_land_100 h (fun v20 h => ?_)
      refine g_isub X dX1_land_103 ?_
      refine g_istore (lv' := [(4, iv (v19 - v20)), (3, iv ((v18 / 4) % 4096)), (0, .ref (r 304)), (1, iv y7), (2, iv x8)]) X dX1_land_104 (by decide) rfl ?_
      refine g_iload X dX1_land_106 0 rfl ?_
      refine g_join (J := fun jj => ∀ (t21 : St), jj  t21 = some z → gP p l e rm_f_X1_land s m args below meth c E A 5 (MQ below ((gqI E (gW E r shH) z) A) args s mc ms A) (gW E r shH) 151 [(0, .ref (r 304)), (1, iv y7), (2, iv x8)] [] t21) h (fun  t21 h => ?_) (fun J22 hJ22 h => ?_)
      · refine g_iinc (lv' := [(2, iv (x8 + 1)), (0, .ref (r 304)), (1, iv y7)]) X dX1_land_151 (k := 2) rfl (by decide) rfl ?_
        refine g_goto (tgt := 39) X dX1_land_154 (by decide) ?_
        exact g_sub (lv' := [(0, .ref (r 304)), (1, iv y7), (2, iv (x8 + 1))]) [1, 2, 0] rfl (ih (x8 + 1) t21 h)
      refine g_if_ge (tgt := 126) X dX1_land_108 (by decide) h (fun h => ?_) (fun h => ?_)
      · refine g_aload_n X dX1_land_126 2 rfl ?_
        refine g_getI X fH_X1_143_304 rfl dX1_land_127 h (fun v23 h => ?_)
        refine g_join (J := fun jj => ∀ (t24 : St), jj  t24 = some z → gP p l e rm_f_X1_land s m args below meth c E A 5 (MQ below ((gqI E (gW E r shH) z) A) args s mc ms A) (gW E r shH) 142 [(0, .ref (r 304)), (1, iv y7), (2, iv x8), (4, iv (v19 - v20))] [] t24) h (fun  t24 h => ?_) (fun J25 hJ25 h => ?_)
        · refine g_aload_n X dX1_land_142 0 rfl ?_
          refine g_iconst X dX1_land_143 ?_
          refine g_iload X dX1_land_144 3 rfl ?_
          refine g_iload_n X dX1_land_146 2 rfl ?_
          refine g_callOI (rest := []) X (fun u9 h9 => cp_X1_blame l E r N 5 (v19 - v20) x8 t24 u9 h9) yy_X1_blame yi_X1_blame wdM_RX1_173 ⟨_, _, oH_304⟩ rfl rfl rfl (Nat.le_of_ble_eq_true rfl) dX1_land_147 ⟨by decide, by decide⟩ ⟨rfl, rfl⟩ h (fun v27 t26 h => ?_)
          refine g_pop X rfl dX1_land_150 ?_
          exact g_sub (lv' := [(0, .ref (r 304)), (1, iv y7), (2, iv x8)]) [0, 1, 2] rfl (hJ22 t26 h)
        refine g_if_eq (tgt := 142) X dX1_land_130 (by decide) h (fun h => ?_) (fun h => ?_)
        · exact g_sub (lv' := [(0, .ref (r 304)), (1, iv y7), (2, iv x8), (4, iv (v19 - v20))]) [2, 3, 4, 0] rfl (hJ25 t17 h)
        · refine g_iload X dX1_land_133 0 rfl ?_
          refine g_aload_n X dX1_land_135 2 rfl ?_
          refine g_getI X fH_X1_167_304 rfl dX1_land_136 h (fun v28 h => ?_)
          refine g_icmp_ge (tgt := 151) X dX1_land_139 (by decide) h (fun h => ?_) (fun h => ?_)
          · exact g_sub (lv' := [(0, .ref (r 304)), (1, iv y7), (2, iv x8)]) [2, 3, 4] rfl (hJ22 t17 h)
          · exact g_sub (lv' := [(0, .ref (r 304)), (1, iv y7), (2, iv x8), (4, iv (v19 - v20))]) [2, 3, 4, 0] rfl (hJ25 t17 h)
      · refine g_aload_n X dX1_land_111 2 rfl ?_
        refine g_getR X fH_X1_37_304 rfl dX1_land_112 ?_
        refine g_iload_n X dX1_land_115 1 rfl ?_
        refine g_aload_n X dX1_land_116 2 rfl ?_
        refine g_getI X fH_X1_235_304 rfl dX1_land_117 h (fun v29 h => ?_)
        refine g_iload_n X dX1_land_120 4 rfl ?_
        refine g_iadd X dX1_land_121 ?_
        refine g_iast X aH_378 dX1_land_122 h (fun t30 h => ?_)
        refine g_goto (tgt := 151) X dX1_land_123 (by decide) ?_
        exact g_sub (lv' := [(0, .ref (r 304)), (1, iv y7), (2, iv x8)]) [2, 3, 4] rfl (hJ22 t30 h)
set_option maxHeartbeats 4000000 in
set_option maxRecDepth 100000 in
theorem b_f_X1_land {p : Program} {l : Launch} {e : Env} {s : State} {m : MethodId} {args : Array Value} {below : List Frame} {meth : Method} {c : Code} {E : cE} {A : Nat → Prop} {r : Nat → Nat} {mc ms : Nat} {z : Int × St} {N : Nat} {a0 : Int} {t : St} (X : gX p s m meth c cX1_land 5 (some .int) yX1_land args E A) (h : f_X1_land N a0 t = some z) : gP p l e rm_f_X1_land s m args below meth c E A 5 (MQ below ((gqI E (gW E r shH) z) A) args s mc ms A) (gW E r shH) 0 [(0, .ref (r 304)), (1, iv a0)] [] t := by
  unfold f_X1_land at h
  refine g_aload_n X dX1_land_0 0 rfl ?_
  refine g_aload_n X dX1_land_1 0 rfl ?_
  refine g_getR X fH_X1_22_304 rfl dX1_land_2 ?_
  refine g_iload_n X dX1_land_5 1 rfl ?_
  refine g_callOV (rest := []) X (fun u9 h9 => cp_X1_square l E r N 373 64 aH_373 a0 t u9 h9) yy_X1_square yi_X1_square wdM_RX1_232 ⟨_, _, oH_304⟩ rfl rfl rfl (Nat.le_of_ble_eq_true rfl) dX1_land_6 ⟨by decide, by decide⟩ ⟨rfl, rfl⟩ h (fun t1 h => ?_)
  refine g_aload_n X dX1_land_9 0 rfl ?_
  refine g_aload_n X dX1_land_10 0 rfl ?_
  refine g_getR X fH_X1_25_304 rfl dX1_land_11 ?_
  refine g_iload_n X dX1_land_14 1 rfl ?_
  refine g_callOV (rest := []) X (fun u9 h9 => cp_X1_square l E r N 374 64 aH_374 a0 t1 u9 h9) yy_X1_square yi_X1_square wdM_RX1_232 ⟨_, _, oH_304⟩ rfl rfl rfl (Nat.le_of_ble_eq_true rfl) dX1_land_15 ⟨by decide, by decide⟩ ⟨rfl, rfl⟩ h (fun t2 h => ?_)
  refine g_aload_n X dX1_land_18 0 rfl ?_
  refine g_iconst X dX1_land_19 ?_
  refine g_iconst X dX1_land_20 ?_
  refine g_iconst X dX1_land_21 ?_
  refine g_callOI (rest := []) X (fun u9 h9 => cp_X1_blame l E r N 0 (-1) (-1) t2 u9 h9) yy_X1_blame yi_X1_blame wdM_RX1_173 ⟨_, _, oH_304⟩ rfl rfl rfl (Nat.le_of_ble_eq_true rfl) dX1_land_22 ⟨by decide, by decide⟩ ⟨rfl, rfl⟩ h (fun v4 t3 h => ?_)
  refine g_pop X rfl dX1_land_25 ?_
  refine g_aload_n X dX1_land_26 0 rfl ?_
  refine g_dup X rfl dX1_land_27 ?_
  refine g_getI X fH_X1_235_304 rfl dX1_land_28 h (fun v5 h => ?_)
  refine g_bipush X dX1_land_31 (by decide) ?_
  refine g_iadd X dX1_land_33 ?_
  refine g_putI X fH_X1_235_304w rfl dX1_land_34 h (fun t6 h => ?_)
  refine g_iconst X dX1_land_37 ?_
  refine g_istore_n (lv' := [(2, iv 0), (0, .ref (r 304)), (1, iv a0)]) X dX1_land_38 rfl (by decide) rfl ?_
  refine g_sub (lv' := [(0, .ref (r 304)), (1, iv a0), (2, iv 0)]) [1, 2, 0] rfl (t_f_X1_land_L39 X (fun t31 h => ?_) N 0 t6 h)
  · refine g_aload_n X dX1_land_157 0 rfl ?_
    refine g_getI X fH_X1_143_304 rfl dX1_land_158 h (fun v32 h => ?_)
    exact g_iret X h dX1_land_161
set_option maxHeartbeats 4000000 in
set_option maxRecDepth 100000 in
theorem cp_X1_land (l : Launch) (E : cE) (r : Nat → Nat) (N : Nat) (a0 : Int) (t : St) (z : Int × St) (h : f_X1_land N a0 t = some z) : cM l E yX1_land cX1_land 5 (some .int) rm_f_X1_land [.ref (r 304), iv a0] (gW E r shH t) (gqI E (gW E r shH) z) := by
  refine g_of (w := gW E r shH) (by decide) (Nat.le_of_ble_eq_true rfl) ?_
  intro p e s m below meth c A X
  exact g_sub (lv' := [(0, .ref (r 304)), (1, iv a0)]) [0, 1] rfl (b_f_X1_land X h)
theorem yy_X1_land : cY yX1_land cX1_land 5 (some .int) 1 := ⟨wdK_X1_land, wdZ_RX1, by decide +kernel⟩
theorem yi_X1_land : cYi yX1_land := ⟨wdN_X1_land, wdS_X1_land⟩
theorem dX1_attempt_0 : decode cX1_attempt 0 = .ok (.iload_n 1, 1) := by decide +kernel
theorem dX1_attempt_1 : decode cX1_attempt 1 = .ok (.istore 5, 2) := by decide +kernel
theorem dX1_attempt_3 : decode cX1_attempt 3 = .ok (.iconst 0, 1) := by decide +kernel
theorem dX1_attempt_4 : decode cX1_attempt 4 = .ok (.istore 6, 2) := by decide +kernel
theorem dX1_attempt_6 : decode cX1_attempt 6 = .ok (.iload 6, 2) := by decide +kernel
theorem dX1_attempt_8 : decode cX1_attempt 8 = .ok (.iconst 4, 1) := by decide +kernel
theorem dX1_attempt_9 : decode cX1_attempt 9 = .ok (.if_icmp .ge 77, 3) := by decide +kernel
theorem dX1_attempt_12 : decode cX1_attempt 12 = .ok (.iload 5, 2) := by decide +kernel
theorem dX1_attempt_14 : decode cX1_attempt 14 = .ok (.aload_n 0, 1) := by decide +kernel
theorem dX1_attempt_15 : decode cX1_attempt 15 = .ok (.getfield 40, 3) := by decide +kernel
theorem dX1_attempt_18 : decode cX1_attempt 18 = .ok (.getfield 53, 3) := by decide +kernel
theorem dX1_attempt_21 : decode cX1_attempt 21 = .ok (.if_icmp .ge 65, 3) := by decide +kernel
theorem dX1_attempt_24 : decode cX1_attempt 24 = .ok (.aload_n 0, 1) := by decide +kernel
theorem dX1_attempt_25 : decode cX1_attempt 25 = .ok (.getfield 40, 3) := by decide +kernel
theorem dX1_attempt_28 : decode cX1_attempt 28 = .ok (.iload 5, 2) := by decide +kernel
theorem dX1_attempt_30 : decode cX1_attempt 30 = .ok (.invokevirtual 59, 3) := by decide +kernel
theorem dX1_attempt_33 : decode cX1_attempt 33 = .ok (.bipush 16, 2) := by decide +kernel
theorem dX1_attempt_35 : decode cX1_attempt 35 = .ok (.if_icmp .gt 51, 3) := by decide +kernel
theorem dX1_attempt_38 : decode cX1_attempt 38 = .ok (.aload_n 0, 1) := by decide +kernel
theorem dX1_attempt_39 : decode cX1_attempt 39 = .ok (.iload 5, 2) := by decide +kernel
theorem dX1_attempt_41 : decode cX1_attempt 41 = .ok (.aload_n 2, 1) := by decide +kernel
theorem dX1_attempt_42 : decode cX1_attempt 42 = .ok (.lload_n 3, 1) := by decide +kernel
theorem dX1_attempt_43 : decode cX1_attempt 43 = .ok (.invokevirtual 125, 3) := by decide +kernel
theorem dX1_attempt_46 : decode cX1_attempt 46 = .ok (.istore 5, 2) := by decide +kernel
theorem dX1_attempt_48 : decode cX1_attempt 48 = .ok (.aload_n 0, 1) := by decide +kernel
theorem dX1_attempt_49 : decode cX1_attempt 49 = .ok (.getfield 15, 3) := by decide +kernel
theorem dX1_attempt_52 : decode cX1_attempt 52 = .ok (.iload 6, 2) := by decide +kernel
theorem dX1_attempt_54 : decode cX1_attempt 54 = .ok (.aload_n 0, 1) := by decide +kernel
theorem dX1_attempt_55 : decode cX1_attempt 55 = .ok (.getfield 11, 3) := by decide +kernel
theorem dX1_attempt_58 : decode cX1_attempt 58 = .ok (.iconst 0, 1) := by decide +kernel
theorem dX1_attempt_59 : decode cX1_attempt 59 = .ok (.laload, 1) := by decide +kernel
theorem dX1_attempt_60 : decode cX1_attempt 60 = .ok (.lastore, 1) := by decide +kernel
theorem dX1_attempt_61 : decode cX1_attempt 61 = .ok (.aload_n 0, 1) := by decide +kernel
theorem dX1_attempt_62 : decode cX1_attempt 62 = .ok (.getfield 18, 3) := by decide +kernel
theorem dX1_attempt_65 : decode cX1_attempt 65 = .ok (.iload 6, 2) := by decide +kernel
theorem dX1_attempt_67 : decode cX1_attempt 67 = .ok (.aload_n 0, 1) := by decide +kernel
theorem dX1_attempt_68 : decode cX1_attempt 68 = .ok (.getfield 40, 3) := by decide +kernel
theorem dX1_attempt_71 : decode cX1_attempt 71 = .ok (.iload 5, 2) := by decide +kernel
theorem dX1_attempt_73 : decode cX1_attempt 73 = .ok (.invokevirtual 63, 3) := by decide +kernel
theorem dX1_attempt_76 : decode cX1_attempt 76 = .ok (.iastore, 1) := by decide +kernel
theorem dX1_attempt_77 : decode cX1_attempt 77 = .ok (.iinc 6 1, 3) := by decide +kernel
theorem dX1_attempt_80 : decode cX1_attempt 80 = .ok (.iinc 5 1, 3) := by decide +kernel
theorem dX1_attempt_83 : decode cX1_attempt 83 = .ok (.goto (-77), 3) := by decide +kernel
theorem dX1_attempt_86 : decode cX1_attempt 86 = .ok (.aload_n 0, 1) := by decide +kernel
theorem dX1_attempt_87 : decode cX1_attempt 87 = .ok (.iload 5, 2) := by decide +kernel
theorem dX1_attempt_89 : decode cX1_attempt 89 = .ok (.iconst 1, 1) := by decide +kernel
theorem dX1_attempt_90 : decode cX1_attempt 90 = .ok (.iadd, 1) := by decide +kernel
theorem dX1_attempt_91 : decode cX1_attempt 91 = .ok (.putfield 129, 3) := by decide +kernel
theorem dX1_attempt_94 : decode cX1_attempt 94 = .ok (.aload_n 0, 1) := by decide +kernel
theorem dX1_attempt_95 : decode cX1_attempt 95 = .ok (.aload_n 2, 1) := by decide +kernel
theorem dX1_attempt_96 : decode cX1_attempt 96 = .ok (.invokevirtual 132, 3) := by decide +kernel
theorem dX1_attempt_99 : decode cX1_attempt 99 = .ok (.aload_n 0, 1) := by decide +kernel
theorem dX1_attempt_100 : decode cX1_attempt 100 = .ok (.iconst 0, 1) := by decide +kernel
theorem dX1_attempt_101 : decode cX1_attempt 101 = .ok (.putfield 136, 3) := by decide +kernel
theorem dX1_attempt_104 : decode cX1_attempt 104 = .ok (.lconst 0, 1) := by decide +kernel
theorem dX1_attempt_105 : decode cX1_attempt 105 = .ok (.lstore 7, 2) := by decide +kernel
theorem dX1_attempt_107 : decode cX1_attempt 107 = .ok (.iconst 0, 1) := by decide +kernel
theorem dX1_attempt_108 : decode cX1_attempt 108 = .ok (.istore 9, 2) := by decide +kernel
theorem dX1_attempt_110 : decode cX1_attempt 110 = .ok (.iload 9, 2) := by decide +kernel
theorem dX1_attempt_112 : decode cX1_attempt 112 = .ok (.iload 6, 2) := by decide +kernel
theorem dX1_attempt_114 : decode cX1_attempt 114 = .ok (.if_icmp .ge 76, 3) := by decide +kernel
theorem dX1_attempt_117 : decode cX1_attempt 117 = .ok (.aload_n 0, 1) := by decide +kernel
theorem dX1_attempt_118 : decode cX1_attempt 118 = .ok (.aload_n 2, 1) := by decide +kernel
theorem dX1_attempt_119 : decode cX1_attempt 119 = .ok (.aload_n 0, 1) := by decide +kernel
theorem dX1_attempt_120 : decode cX1_attempt 120 = .ok (.getfield 18, 3) := by decide +kernel
theorem dX1_attempt_123 : decode cX1_attempt 123 = .ok (.iload 9, 2) := by decide +kernel
theorem dX1_attempt_125 : decode cX1_attempt 125 = .ok (.iaload, 1) := by decide +kernel
theorem dX1_attempt_126 : decode cX1_attempt 126 = .ok (.aload_n 0, 1) := by decide +kernel
theorem dX1_attempt_127 : decode cX1_attempt 127 = .ok (.getfield 15, 3) := by decide +kernel
theorem dX1_attempt_130 : decode cX1_attempt 130 = .ok (.iload 9, 2) := by decide +kernel
theorem dX1_attempt_132 : decode cX1_attempt 132 = .ok (.laload, 1) := by decide +kernel
theorem dX1_attempt_133 : decode cX1_attempt 133 = .ok (.lload 7, 2) := by decide +kernel
theorem dX1_attempt_135 : decode cX1_attempt 135 = .ok (.invokevirtual 139, 3) := by decide +kernel
theorem dX1_attempt_138 : decode cX1_attempt 138 = .ok (.ifCond .ne 8, 3) := by decide +kernel
theorem dX1_attempt_141 : decode cX1_attempt 141 = .ok (.aload_n 0, 1) := by decide +kernel
theorem dX1_attempt_142 : decode cX1_attempt 142 = .ok (.getfield 143, 3) := by decide +kernel
theorem dX1_attempt_145 : decode cX1_attempt 145 = .ok (.ireturn, 1) := by decide +kernel
theorem dX1_attempt_146 : decode cX1_attempt 146 = .ok (.lload 7, 2) := by decide +kernel
theorem dX1_attempt_148 : decode cX1_attempt 148 = .ok (.aload_n 0, 1) := by decide +kernel
theorem dX1_attempt_149 : decode cX1_attempt 149 = .ok (.getfield 15, 3) := by decide +kernel
theorem dX1_attempt_152 : decode cX1_attempt 152 = .ok (.iload 9, 2) := by decide +kernel
theorem dX1_attempt_154 : decode cX1_attempt 154 = .ok (.laload, 1) := by decide +kernel
theorem dX1_attempt_155 : decode cX1_attempt 155 = .ok (.lor, 1) := by decide +kernel
theorem dX1_attempt_156 : decode cX1_attempt 156 = .ok (.lstore 7, 2) := by decide +kernel
theorem dX1_attempt_158 : decode cX1_attempt 158 = .ok (.aload_n 0, 1) := by decide +kernel
theorem dX1_attempt_159 : decode cX1_attempt 159 = .ok (.aload_n 0, 1) := by decide +kernel
theorem dX1_attempt_160 : decode cX1_attempt 160 = .ok (.getfield 136, 3) := by decide +kernel
theorem dX1_attempt_163 : decode cX1_attempt 163 = .ok (.aload_n 0, 1) := by decide +kernel
theorem dX1_attempt_164 : decode cX1_attempt 164 = .ok (.getfield 40, 3) := by decide +kernel
theorem dX1_attempt_167 : decode cX1_attempt 167 = .ok (.getfield 146, 3) := by decide +kernel
theorem dX1_attempt_170 : decode cX1_attempt 170 = .ok (.aload_n 0, 1) := by decide +kernel
theorem dX1_attempt_171 : decode cX1_attempt 171 = .ok (.getfield 18, 3) := by decide +kernel
theorem dX1_attempt_174 : decode cX1_attempt 174 = .ok (.iload 9, 2) := by decide +kernel
theorem dX1_attempt_176 : decode cX1_attempt 176 = .ok (.iaload, 1) := by decide +kernel
theorem dX1_attempt_177 : decode cX1_attempt 177 = .ok (.iaload, 1) := by decide +kernel
theorem dX1_attempt_178 : decode cX1_attempt 178 = .ok (.invokestatic 66, 3) := by decide +kernel
theorem dX1_attempt_181 : decode cX1_attempt 181 = .ok (.putfield 136, 3) := by decide +kernel
theorem dX1_attempt_184 : decode cX1_attempt 184 = .ok (.iinc 9 1, 3) := by decide +kernel
theorem dX1_attempt_187 : decode cX1_attempt 187 = .ok (.goto (-77), 3) := by decide +kernel
theorem dX1_attempt_190 : decode cX1_attempt 190 = .ok (.aload_n 0, 1) := by decide +kernel
theorem dX1_attempt_191 : decode cX1_attempt 191 = .ok (.aload_n 2, 1) := by decide +kernel
theorem dX1_attempt_192 : decode cX1_attempt 192 = .ok (.getfield 149, 3) := by decide +kernel
theorem dX1_attempt_195 : decode cX1_attempt 195 = .ok (.invokevirtual 152, 3) := by decide +kernel
theorem dX1_attempt_198 : decode cX1_attempt 198 = .ok (.ireturn, 1) := by decide +kernel
abbrev rm_f_X1_attempt : Room := { frames := 4, cells := 0, slots := 0, locals := 123 }
def f_X1_attempt_L6 (N : Nat) (o2 : Nat) (K5 : (Int → Int → St → Option (Int × St))) (y1 : Int64) : Nat → Int → Int → St → Option (Int × St)
  | 0, _, _, _ => none
  | n9 + 1, x2, x3, t4 =>
    cmpI x3 4 (if x3 < 4 then (lt1 (t4.1 302 18) fun v6 =>
    cmpI x2 v6 (if x2 < v6 then (bdI (f_X0_kindAt N x2 t4) fun v8 t7 =>
    cmpI v8 16 (if 16 < v8 then (K5 x2 x3 t7)
    else (bdI (f_X1_evaluate N o2 x2 y1 t7) fun v10 t9 =>
    ixI 0 96 (lt1 (t9.2 370 (0 : Int).toNat) fun v11 =>
    ixI x3 4 (lt1 (pL t9 371 x3.toNat v11) fun t12 =>
    bdI (f_X0_valueAt N v10 t12) fun v14 t13 =>
    ixI x3 4 (lt1 (pI t13 372 x3.toNat v14) fun t15 =>
    f_X1_attempt_L6 N o2 K5 y1 n9 (v10 + 1) (x3 + 1) t15))))))
    else (K5 x2 x3 t4)))
    else (K5 x2 x3 t4))
def f_X1_attempt_L110 (N : Nat) (o2 : Nat) (K26 : (St → Option (Int × St))) (y22 : Int) : Nat → Int64 → Int → St → Option (Int × St)
  | 0, _, _, _ => none
  | n9 + 1, x23, x24, t25 =>
    cmpI x24 y22 (if x24 < y22 then (ixI x24 4 (lt1 (t25.1 372 x24.toNat) fun v27 =>
    ixI x24 4 (lt1 (t25.2 371 x24.toNat) fun v28 =>
    bdI (f_X1_move N o2 v27 v28 x23 t25) fun v30 t29 =>
    cmpI v30 0 (if v30 = 0 then (lt1 (t29.1 304 14) fun v36 =>
    some (v36, t29))
    else (ixI x24 4 (lt1 (t29.2 371 x24.toNat) fun v31 =>
    lt1 (t29.1 304 13) fun v32 =>
    ixI x24 4 (lt1 (t29.1 372 x24.toNat) fun v33 =>
    ixI v33 100 (lt1 (t29.1 355 v33.toNat) fun v34 =>
    cmpI v32 v34 (
    lt1 (pI t29 304 13 (max v32 v34)) fun t35 =>
    f_X1_attempt_L110 N o2 K26 y22 n9 (x23 ||| v31) (x24 + 1) t35)))))))))
    else (K26 t25))
def f_X1_attempt (N : Nat) (o2 : Nat) (a0 : Int) (a2 : Int64) (t : St) : Option (Int × St) :=
    f_X1_attempt_L6 N o2 (fun (k16 : Int) (k17 : Int) (t18 : St) => lt1 (pI t18 304 12 (k16 + 1)) fun t19 =>
    bdV (f_X1_stayAll N o2 t19) fun t20 =>
    lt1 (pI t20 304 13 0) fun t21 =>
    f_X1_attempt_L110 N o2 (fun (t37 : St) => lt1 (t37.1 (305 + o2) 8) fun v38 =>
    bdI (f_X1_land N v38 t37) fun v40 t39 =>
    some (v40, t39)) k17 N (0 : Int64) 0 t21) a2 N a0 0 t
set_option maxHeartbeats 4000000 in
set_option maxRecDepth 100000 in
theorem t_f_X1_attempt_L6 {p : Program} {l : Launch} {e : Env} {s : State} {m : MethodId} {args : Array Value} {below : List Frame} {meth : Method} {c : Code} {E : cE} {A : Nat → Prop} {r : Nat → Nat} {mc ms : Nat} {z : Int × St} {o2 : Nat} (ho2 : o2 < 2) {N : Nat} {K5 : (Int → Int → St → Option (Int × St))} {y1 : Int64} (X : gX p s m meth c cX1_attempt 10 (some .int) yX1_attempt args E A) (hK5 : ∀ (q5 : Int) (q6 : Int) (t9 : St), K5 q5 q6 t9 = some z → gP p l e rm_f_X1_attempt s m args below meth c E A 10 (MQ below ((gqI E (gW E r shH) z) A) args s mc ms A) (gW E r shH) 86 [(0, .ref (r 304)), (2, .ref (r (305 + o2))), (5, iv q5), (6, iv q6)] [] t9) : ∀ (n9 : Nat) (x2 : Int) (x3 : Int) (t4 : St), f_X1_attempt_L6 N o2 K5 y1 n9 x2 x3 t4 = some z → gP p l e rm_f_X1_attempt s m args below meth c E A 10 (MQ below ((gqI E (gW E r shH) z) A) args s mc ms A) (gW E r shH) 6 [(0, .ref (r 304)), (2, .ref (r (305 + o2))), (3, .long y1), (5, iv x2), (6, iv x3)] [] t4 := by
  intro n9
  induction n9 with
  | zero => intro x2 x3 t4 h; cases h
  | succ n9 ih =>
    intro x2 x3 t4 h
    unfold f_X1_attempt_L6 at h
    refine g_iload X dX1_attempt_6 4 rfl ?_
    refine g_iconst X dX1_attempt_8 ?_
    refine g_icmp_ge (tgt := 86) X dX1_attempt_9 (by decide) h (fun h => ?_) (fun h => ?_)
    · exact g_sub (lv' := [(0, .ref (r 304)), (2, .ref (r (305 + o2))), (5, iv x2), (6, iv x3)]) [0, 1, 3, 4] rfl (hK5 x2 x3 t4 h)
    · refine g_iload X dX1_attempt_12 3 rfl ?_
      refine g_aload_n X dX1_attempt_14 0 rfl ?_
      refine g_getR X fH_X1_40_304 rfl dX1_attempt_15 ?_
      refine g_getI X fH_X1_53_302 rfl dX1_attempt_18 h (fun v6 h => ?_)
      refine g_icmp_ge (tgt := 86) X dX1_attempt_21 (by decide) h (fun h => ?_) (fun h => ?_)
      · exact g_sub (lv' := [(0, .ref (r 304)), (2, .ref (r (305 + o2))), (5, iv x2), (6, iv x3)]) [0, 1, 3, 4] rfl (hK5 x2 x3 t4 h)
      · refine g_aload_n X dX1_attempt_24 0 rfl ?_
        refine g_getR X fH_X1_40_304 rfl dX1_attempt_25 ?_
        refine g_iload X dX1_attempt_28 3 rfl ?_
        refine g_callOI (rest := []) X (fun u9 h9 => cp_X0_kindAt l E r N x2 t4 u9 h9) yy_X0_kindAt yi_X0_kindAt wdM_RX1_59 ⟨_, _, oH_302⟩ rfl rfl rfl (Nat.le_of_ble_eq_true rfl) dX1_attempt_30 ⟨by decide, by decide⟩ ⟨rfl, rfl⟩ h (fun v8 t7 h => ?_)
        refine g_bipush X dX1_attempt_33 (by decide) ?_
        refine g_icmp_gt (tgt := 86) X dX1_attempt_35 (by decide) h (fun h => ?_) (fun h => ?_)
        · exact g_sub (lv' := [(0, .ref (r 304)), (2, .ref (r (305 + o2))), (5, iv x2), (6, iv x3)]) [0, 1, 3, 4] rfl (hK5 x2 x3 t7 h)
        · refine g_aload_n X dX1_attempt_38 0 rfl ?_
          refine g_iload X dX1_attempt_39 3 rfl ?_
          refine g_aload_n X dX1_attempt_41 1 rfl ?_
          refine g_lload_n X dX1_attempt_42 2 rfl ?_
          refine g_callOI (rest := []) X (fun u9 h9 => cp_X1_evaluate l E r N o2 ho2 x2 y1 t7 u9 h9) yy_X1_evaluate yi_X1_evaluate wdM_RX1_125 ⟨_, _, oH_304⟩ rfl rfl rfl (Nat.le_of_ble_eq_true rfl) dX1_attempt_43 ⟨by decide, by decide⟩ ⟨rfl, rfl⟩ h (fun v10 t9 h => ?_)
          refine g_istore (lv' := [(5, iv v10), (0, .ref (r 304)), (2, .ref (r (305 + o2))), (3, .long y1), (6, iv x3)]) X dX1_attempt_46 (by decide) rfl ?_
          refine g_aload_n X dX1_attempt_48 1 rfl ?_
          refine g_getR X fH_X1_15_304 rfl dX1_attempt_49 ?_
          refine g_iload X dX1_attempt_52 4 rfl ?_
          refine g_aload_n X dX1_attempt_54 1 rfl ?_
          refine g_getR X fH_X1_11_304 rfl dX1_attempt_55 ?_
          refine g_iconst X dX1_attempt_58 ?_
          refine g_lald X aH_370 dX1_attempt_59 h (fun v11 h => ?_)
          refine g_last X aH_371 dX1_attempt_60 h (fun t12 h => ?_)
          refine g_aload_n X dX1_attempt_61 1 rfl ?_
          refine g_getR X fH_X1_18_304 rfl dX1_attempt_62 ?_
          refine g_iload X dX1_attempt_65 4 rfl ?_
          refine g_aload_n X dX1_attempt_67 1 rfl ?_
          refine g_getR X fH_X1_40_304 rfl dX1_attempt_68 ?_
          refine g_iload X dX1_attempt_71 0 rfl ?_
          refine g_callOI (rest := [iv x3, .ref (r 372)]) X (fun u9 h9 => cp_X0_valueAt l E r N v10 t12 u9 h9) yy_X0_valueAt yi_X0_valueAt wdM_RX1_63 ⟨_, _, oH_302⟩ rfl rfl rfl (Nat.le_of_ble_eq_true rfl) dX1_attempt_73 ⟨by decide, by decide⟩ ⟨rfl, rfl⟩ h (fun v14 t13 h => ?_)
          refine g_iast X aH_372 dX1_attempt_76 h (fun t15 h => ?_)
          refine g_iinc (lv' := [(6, iv (x3 + 1)), (5, iv v10), (0, .ref (r 304)), (2, .ref (r (305 + o2))), (3, .long y1)]) X dX1_attempt_77 (k := 4) rfl (by decide) rfl ?_
          refine g_iinc (lv' := [(5, iv (v10 + 1)), (6, iv (x3 + 1)), (0, .ref (r 304)), (2, .ref (r (305 + o2))), (3, .long y1)]) X dX1_attempt_80 (k := 1) rfl (by decide) rfl ?_
          refine g_goto (tgt := 6) X dX1_attempt_83 (by decide) ?_
          exact g_sub (lv' := [(0, .ref (r 304)), (2, .ref (r (305 + o2))), (3, .long y1), (5, iv (v10 + 1)), (6, iv (x3 + 1))]) [2, 3, 4, 0, 1] rfl (ih (v10 + 1) (x3 + 1) t15 h)
set_option maxHeartbeats 4000000 in
set_option maxRecDepth 100000 in
theorem t_f_X1_attempt_L110 {p : Program} {l : Launch} {e : Env} {s : State} {m : MethodId} {args : Array Value} {below : List Frame} {meth : Method} {c : Code} {E : cE} {A : Nat → Prop} {r : Nat → Nat} {mc ms : Nat} {z : Int × St} {o2 : Nat} (ho2 : o2 < 2) {N : Nat} {K26 : (St → Option (Int × St))} {y22 : Int} (X : gX p s m meth c cX1_attempt 10 (some .int) yX1_attempt args E A) (hK26 : ∀ (t9 : St), K26 t9 = some z → gP p l e rm_f_X1_attempt s m args below meth c E A 10 (MQ below ((gqI E (gW E r shH) z) A) args s mc ms A) (gW E r shH) 190 [(0, .ref (r 304)), (2, .ref (r (305 + o2)))] [] t9) : ∀ (n9 : Nat) (x23 : Int64) (x24 : Int) (t25 : St), f_X1_attempt_L110 N o2 K26 y22 n9 x23 x24 t25 = some z → gP p l e rm_f_X1_attempt s m args below meth c E A 10 (MQ below ((gqI E (gW E r shH) z) A) args s mc ms A) (gW E r shH) 110 [(0, .ref (r 304)), (2, .ref (r (305 + o2))), (6, iv y22), (7, .long x23), (9, iv x24)] [] t25 := by
  intro n9
  induction n9 with
  | zero => intro x23 x24 t25 h; cases h
  | succ n9 ih =>
    intro x23 x24 t25 h
    unfold f_X1_attempt_L110 at h
    refine g_iload X dX1_attempt_110 4 rfl ?_
    refine g_iload X dX1_attempt_112 2 rfl ?_
    refine g_icmp_ge (tgt := 190) X dX1_attempt_114 (by decide) h (fun h => ?_) (fun h => ?_)
    · exact g_sub (lv' := [(0, .ref (r 304)), (2, .ref (r (305 + o2)))]) [0, 1] rfl (hK26 t25 h)
    · refine g_aload_n X dX1_attempt_117 0 rfl ?_
      refine g_aload_n X dX1_attempt_118 1 rfl ?_
      refine g_aload_n X dX1_attempt_119 0 rfl ?_
      refine g_getR X fH_X1_18_304 rfl dX1_attempt_120 ?_
      refine g_iload X dX1_attempt_123 4 rfl ?_
      refine g_iald X aH_372 dX1_attempt_125 h (fun v27 h => ?_)
      refine g_aload_n X dX1_attempt_126 0 rfl ?_
      refine g_getR X fH_X1_15_304 rfl dX1_attempt_127 ?_
      refine g_iload X dX1_attempt_130 4 rfl ?_
      refine g_lald X aH_371 dX1_attempt_132 h (fun v28 h => ?_)
      refine g_lload X dX1_attempt_133 3 rfl ?_
      refine g_callOI (rest := []) X (fun u9 h9 => cp_X1_move l E r N o2 ho2 v27 v28 x23 t25 u9 h9) yy_X1_move yi_X1_move wdM_RX1_139 ⟨_, _, oH_304⟩ rfl rfl rfl (Nat.le_of_ble_eq_true rfl) dX1_attempt_135 ⟨by decide, by decide⟩ ⟨rfl, rfl⟩ h (fun v30 t29 h => ?_)
      refine g_if_ne (tgt := 146) X dX1_attempt_138 (by decide) h (fun h => ?_) (fun h => ?_)
      · refine g_lload X dX1_attempt_146 3 rfl ?_
        refine g_aload_n X dX1_attempt_148 0 rfl ?_
        refine g_getR X fH_X1_15_304 rfl dX1_attempt_149 ?_
        refine g_iload X dX1_attempt_152 4 rfl ?_
        refine g_lald X aH_371 dX1_attempt_154 h (fun v31 h => ?_)
        refine g_lor X dX1_attempt_155 ?_
        refine g_lstore (lv' := [(7, .long (x23 ||| v31)), (0, .ref (r 304)), (2, .ref (r (305 + o2))), (6, iv y22), (9, iv x24)]) X dX1_attempt_156 (by decide) rfl ?_
        refine g_aload_n X dX1_attempt_158 1 rfl ?_
        refine g_aload_n X dX1_attempt_159 1 rfl ?_
        refine g_getI X fH_X1_136_304 rfl dX1_attempt_160 h (fun v32 h => ?_)
        refine g_aload_n X dX1_attempt_163 1 rfl ?_
        refine g_getR X fH_X1_40_304 rfl dX1_attempt_164 ?_
        refine g_getR X fH_X1_146_302 rfl dX1_attempt_167 ?_
        refine g_aload_n X dX1_attempt_170 1 rfl ?_
        refine g_getR X fH_X1_18_304 rfl dX1_attempt_171 ?_
        refine g_iload X dX1_attempt_174 4 rfl ?_
        refine g_iald X aH_372 dX1_attempt_176 h (fun v33 h => ?_)
        refine g_iald X aH_355 dX1_attempt_177 h (fun v34 h => ?_)
        refine g_mmax X wdM_RX1_66 (by decide) (Nat.le_of_ble_eq_true rfl) dX1_attempt_178 h (fun h => ?_)
        refine g_putI X fH_X1_136_304w rfl dX1_attempt_181 h (fun t35 h => ?_)
        refine g_iinc (lv' := [(9, iv (x24 + 1)), (7, .long (x23 ||| v31)), (0, .ref (r 304)), (2, .ref (r (305 + o2))), (6, iv y22)]) X dX1_attempt_184 (k := 4) rfl (by decide) rfl ?_
        refine g_goto (tgt := 110) X dX1_attempt_187 (by decide) ?_
        exact g_sub (lv' := [(0, .ref (r 304)), (2, .ref (r (305 + o2))), (6, iv y22), (7, .long (x23 ||| v31)), (9, iv (x24 + 1))]) [2, 3, 4, 1, 0] rfl (ih (x23 ||| v31) (x24 + 1) t35 h)
      · refine g_aload_n X dX1_attempt_141 0 rfl ?_
        refine g_getI X fH_X1_143_304 rfl dX1_attempt_142 h (fun v36 h => ?_)
        exact g_iret X h dX1_attempt_145
set_option maxHeartbeats 4000000 in
set_option maxRecDepth 100000 in
theorem b_f_X1_attempt {p : Program} {l : Launch} {e : Env} {s : State} {m : MethodId} {args : Array Value} {below : List Frame} {meth : Method} {c : Code} {E : cE} {A : Nat → Prop} {r : Nat → Nat} {mc ms : Nat} {z : Int × St} {N : Nat} {o2 : Nat} (ho2 : o2 < 2) {a0 : Int} {a2 : Int64} {t : St} (X : gX p s m meth c cX1_attempt 10 (some .int) yX1_attempt args E A) (h : f_X1_attempt N o2 a0 a2 t = some z) : gP p l e rm_f_X1_attempt s m args below meth c E A 10 (MQ below ((gqI E (gW E r shH) z) A) args s mc ms A) (gW E r shH) 0 [(0, .ref (r 304)), (1, iv a0), (2, .ref (r (305 + o2))), (3, .long a2)] [] t := by
  unfold f_X1_attempt at h
  refine g_iload_n X dX1_attempt_0 1 rfl ?_
  refine g_istore (lv' := [(5, iv a0), (0, .ref (r 304)), (1, iv a0), (2, .ref (r (305 + o2))), (3, .long a2)]) X dX1_attempt_1 (by decide) rfl ?_
  refine g_iconst X dX1_attempt_3 ?_
  refine g_istore (lv' := [(6, iv 0), (5, iv a0), (0, .ref (r 304)), (1, iv a0), (2, .ref (r (305 + o2))), (3, .long a2)]) X dX1_attempt_4 (by decide) rfl ?_
  refine g_sub (lv' := [(0, .ref (r 304)), (2, .ref (r (305 + o2))), (3, .long a2), (5, iv a0), (6, iv 0)]) [2, 4, 5, 1, 0] rfl (t_f_X1_attempt_L6 ho2 X (fun k16 k17 t18 h => ?_) N a0 0 t h)
  · refine g_aload_n X dX1_attempt_86 0 rfl ?_
    refine g_iload X dX1_attempt_87 2 rfl ?_
    refine g_iconst X dX1_attempt_89 ?_
    refine g_iadd X dX1_attempt_90 ?_
    refine g_putI X fH_X1_129_304w rfl dX1_attempt_91 h (fun t19 h => ?_)
    refine g_aload_n X dX1_attempt_94 0 rfl ?_
    refine g_aload_n X dX1_attempt_95 1 rfl ?_
    refine g_callOV (rest := []) X (fun u9 h9 => cp_X1_stayAll l E r N o2 ho2 t19 u9 h9) yy_X1_stayAll yi_X1_stayAll wdM_RX1_132 ⟨_, _, oH_304⟩ rfl rfl rfl (Nat.le_of_ble_eq_true rfl) dX1_attempt_96 ⟨by decide, by decide⟩ ⟨rfl, rfl⟩ h (fun t20 h => ?_)
    refine g_aload_n X dX1_attempt_99 0 rfl ?_
    refine g_iconst X dX1_attempt_100 ?_
    refine g_putI X fH_X1_136_304w rfl dX1_attempt_101 h (fun t21 h => ?_)
    refine g_lconst (v := 0) X dX1_attempt_104 (by decide) ?_
    refine g_lstore (lv' := [(7, .long (0 : Int64)), (0, .ref (r 304)), (2, .ref (r (305 + o2))), (5, iv k16), (6, iv k17)]) X dX1_attempt_105 (by decide) rfl ?_
    refine g_iconst X dX1_attempt_107 ?_
    refine g_istore (lv' := [(9, iv 0), (7, .long (0 : Int64)), (0, .ref (r 304)), (2, .ref (r (305 + o2))), (5, iv k16), (6, iv k17)]) X dX1_attempt_108 (by decide) rfl ?_
    refine g_sub (lv' := [(0, .ref (r 304)), (2, .ref (r (305 + o2))), (6, iv k17), (7, .long (0 : Int64)), (9, iv 0)]) [2, 3, 5, 1, 0] rfl (t_f_X1_attempt_L110 ho2 X (fun t37 h => ?_) N (0 : Int64) 0 t21 h)
    · refine g_aload_n X dX1_attempt_190 0 rfl ?_
      refine g_aload_n X dX1_attempt_191 1 rfl ?_
      refine g_getI X (fH_X1_149_o (o := o2) ho2) rfl dX1_attempt_192 h (fun v38 h => ?_)
      refine g_callOI (rest := []) X (fun u9 h9 => cp_X1_land l E r N v38 t37 u9 h9) yy_X1_land yi_X1_land wdM_RX1_152 ⟨_, _, oH_304⟩ rfl rfl rfl (Nat.le_of_ble_eq_true rfl) dX1_attempt_195 ⟨by decide, by decide⟩ ⟨rfl, rfl⟩ h (fun v40 t39 h => ?_)
      exact g_iret X h dX1_attempt_198
set_option maxHeartbeats 4000000 in
set_option maxRecDepth 100000 in
theorem cp_X1_attempt (l : Launch) (E : cE) (r : Nat → Nat) (N : Nat) (o2 : Nat) (ho2 : o2 < 2) (a0 : Int) (a2 : Int64) (t : St) (z : Int × St) (h : f_X1_attempt N o2 a0 a2 t = some z) : cM l E yX1_attempt cX1_attempt 10 (some .int) rm_f_X1_attempt [.ref (r 304), iv a0, .ref (r (305 + o2)), .long a2] (gW E r shH t) (gqI E (gW E r shH) z) := by
  refine g_of (w := gW E r shH) (by decide) (Nat.le_of_ble_eq_true rfl) ?_
  intro p e s m below meth c A X
  exact g_sub (lv' := [(0, .ref (r 304)), (1, iv a0), (2, .ref (r (305 + o2))), (3, .long a2)]) [0, 1, 2, 3] rfl (b_f_X1_attempt ho2 X h)
theorem yy_X1_attempt : cY yX1_attempt cX1_attempt 10 (some .int) 3 := ⟨wdK_X1_attempt, wdZ_RX1, by decide +kernel⟩
theorem yi_X1_attempt : cYi yX1_attempt := ⟨wdN_X1_attempt, wdS_X1_attempt⟩
abbrev rm_f_J7_fill_d0a16 : Room := { frames := 0, cells := 0, slots := 0, locals := 0 }
def f_J7_fill_d0a16_L6 (q0 : Nat) (n0 : Nat) (K5 : (St → Option (St))) (y1 : Int64) (y3 : Int) : Nat → Int → St → Option (St)
  | 0, _, _ => none
  | n9 + 1, x2, t4 =>
    cmpI x2 y3 (if x2 < y3 then (ixI x2 n0 (lt1 (pL t4 q0 x2.toNat y1) fun t6 =>
    f_J7_fill_d0a16_L6 q0 n0 K5 y1 y3 n9 (x2 + 1) t6))
    else (K5 t4))
def f_J7_fill_d0a16 (N : Nat) (q0 : Nat) (n0 : Nat) (a1 : Int64) (t : St) : Option (St) :=
    f_J7_fill_d0a16_L6 q0 n0 (fun (t7 : St) => some t7) a1 ((n0 : Nat) : Int) N 0 t
set_option maxHeartbeats 4000000 in
set_option maxRecDepth 100000 in
theorem t_f_J7_fill_d0a16_L6 {p : Program} {l : Launch} {e : Env} {s : State} {m : MethodId} {args : Array Value} {below : List Frame} {meth : Method} {c : Code} {E : cE} {A : Nat → Prop} {r : Nat → Nat} {mc ms : Nat} {z : St} {q0 n0 : Nat} (hq0 : gA shH q0 2 n0) {K5 : (St → Option (St))} {y1 : Int64} {y3 : Int} (X : gX p s m meth c cJ7_fill_d0a16 5 none yJ7_fill_d0a16 args E A) (hK5 : ∀ (t9 : St), K5 t9 = some z → gP p l e rm_f_J7_fill_d0a16 s m args below meth c E A 5 (MQ below ((gqV E (gW E r shH) z) A) args s mc ms A) (gW E r shH) 22 [] [] t9) : ∀ (n9 : Nat) (x2 : Int) (t4 : St), f_J7_fill_d0a16_L6 q0 n0 K5 y1 y3 n9 x2 t4 = some z → gP p l e rm_f_J7_fill_d0a16 s m args below meth c E A 5 (MQ below ((gqV E (gW E r shH) z) A) args s mc ms A) (gW E r shH) 6 [(0, .ref (r q0)), (1, .long y1), (3, iv x2), (4, iv y3)] [] t4 := by
  intro n9
  induction n9 with
  | zero => intro x2 t4 h; cases h
  | succ n9 ih =>
    intro x2 t4 h
    unfold f_J7_fill_d0a16_L6 at h
    refine g_iload_n X dJ7_fill_d0a16_6 2 rfl ?_
    refine g_iload X dJ7_fill_d0a16_7 3 rfl ?_
    refine g_icmp_ge (tgt := 22) X dJ7_fill_d0a16_9 (by decide) h (fun h => ?_) (fun h => ?_)
    · exact g_sub (lv' := []) [] rfl (hK5 t4 h)
    · refine g_aload_n X dJ7_fill_d0a16_12 0 rfl ?_
      refine g_iload_n X dJ7_fill_d0a16_13 2 rfl ?_
      refine g_lload_n X dJ7_fill_d0a16_14 1 rfl ?_
      refine g_last X hq0 dJ7_fill_d0a16_15 h (fun t6 h => ?_)
      refine g_iinc (lv' := [(3, iv (x2 + 1)), (0, .ref (r q0)), (1, .long y1), (4, iv y3)]) X dJ7_fill_d0a16_16 (k := 2) rfl (by decide) rfl ?_
      refine g_goto (tgt := 6) X dJ7_fill_d0a16_19 (by decide) ?_
      exact g_sub (lv' := [(0, .ref (r q0)), (1, .long y1), (3, iv (x2 + 1)), (4, iv y3)]) [1, 2, 0, 3] rfl (ih (x2 + 1) t6 h)
set_option maxHeartbeats 4000000 in
set_option maxRecDepth 100000 in
theorem b_f_J7_fill_d0a16 {p : Program} {l : Launch} {e : Env} {s : State} {m : MethodId} {args : Array Value} {below : List Frame} {meth : Method} {c : Code} {E : cE} {A : Nat → Prop} {r : Nat → Nat} {mc ms : Nat} {z : St} {N : Nat} {q0 n0 : Nat} (hq0 : gA shH q0 2 n0) {a1 : Int64} {t : St} (X : gX p s m meth c cJ7_fill_d0a16 5 none yJ7_fill_d0a16 args E A) (h : f_J7_fill_d0a16 N q0 n0 a1 t = some z) : gP p l e rm_f_J7_fill_d0a16 s m args below meth c E A 5 (MQ below ((gqV E (gW E r shH) z) A) args s mc ms A) (gW E r shH) 0 [(0, .ref (r q0)), (1, .long a1)] [] t := by
  unfold f_J7_fill_d0a16 at h
  refine g_iconst X dJ7_fill_d0a16_0 ?_
  refine g_istore_n (lv' := [(3, iv 0), (0, .ref (r q0)), (1, .long a1)]) X dJ7_fill_d0a16_1 rfl (by decide) rfl ?_
  refine g_aload_n X dJ7_fill_d0a16_2 1 rfl ?_
  refine g_alen2 X hq0 dJ7_fill_d0a16_3 ?_
  refine g_istore (lv' := [(4, iv ((n0 : Nat) : Int)), (3, iv 0), (0, .ref (r q0)), (1, .long a1)]) X dJ7_fill_d0a16_4 (by decide) rfl ?_
  refine g_sub (lv' := [(0, .ref (r q0)), (1, .long a1), (3, iv 0), (4, iv ((n0 : Nat) : Int))]) [2, 3, 1, 0] rfl (t_f_J7_fill_d0a16_L6 hq0 X (fun t7 h => ?_) N 0 t h)
  · exact g_vret X h dJ7_fill_d0a16_22
set_option maxHeartbeats 4000000 in
set_option maxRecDepth 100000 in
theorem cp_J7_fill_d0a16 (l : Launch) (E : cE) (r : Nat → Nat) (N : Nat) (q0 n0 : Nat) (hq0 : gA shH q0 2 n0) (a1 : Int64) (t : St) (z : St) (h : f_J7_fill_d0a16 N q0 n0 a1 t = some z) : cM l E yJ7_fill_d0a16 cJ7_fill_d0a16 5 none rm_f_J7_fill_d0a16 [.ref (r q0), .long a1] (gW E r shH t) (gqV E (gW E r shH) z) := by
  refine g_of (w := gW E r shH) (by decide) (Nat.le_of_ble_eq_true rfl) ?_
  intro p e s m below meth c A X
  exact g_sub (lv' := [(0, .ref (r q0)), (1, .long a1)]) [0, 1] rfl (b_f_J7_fill_d0a16 hq0 X h)
abbrev rm_f_X3_sort : Room := { frames := 2, cells := 0, slots := 0, locals := 43 }
def f_X3_sort_L20 (N : Nat) (o0 : Nat) (K11 : (Int → St → Option (St))) (y8 : Int) : Nat → Int → St → Option (St)
  | 0, _, _ => none
  | n9 + 1, x9, t10 =>
    cmpI x9 0 (if 0 < x9 then (ixI (x9 - 1) 64 (lt1 (t10.1 (395 + 10 * o0) (x9 - 1).toNat) fun v12 =>
    bdI (f_X3_codeAt N o0 v12 t10) fun v14 t13 =>
    rnI v14 (
    cmpI (v14 / 4) y8 (if y8 < (v14 / 4) then (ixI (x9 - 1) 64 (lt1 (t13.1 (395 + 10 * o0) (x9 - 1).toNat) fun v15 =>
    ixI x9 64 (lt1 (pI t13 (395 + 10 * o0) x9.toNat v15) fun t16 =>
    f_X3_sort_L20 N o0 K11 y8 n9 (x9 + (-1)) t16)))
    else (K11 x9 t13)))))
    else (K11 x9 t10))
def f_X3_sort_L2 (N : Nat) (o0 : Nat) (K3 : (St → Option (St))) : Nat → Int → St → Option (St)
  | 0, _, _ => none
  | n9 + 1, x1, t2 =>
    lt1 (t2.1 (305 + o0) 8) fun v4 =>
    cmpI x1 v4 (if x1 < v4 then (bdI (f_X3_codeAt N o0 x1 t2) fun v6 t5 =>
    rnI v6 (
    f_X3_sort_L20 N o0 (fun (k17 : Int) (t18 : St) => ixI k17 64 (lt1 (pI t18 (395 + 10 * o0) k17.toNat x1) fun t19 =>
    f_X3_sort_L2 N o0 K3 n9 (x1 + 1) t19)) (v6 / 4) N x1 t5))
    else (K3 t2))
def f_X3_sort (N : Nat) (o0 : Nat) (t : St) : Option (St) :=
    f_X3_sort_L2 N o0 (fun (t20 : St) => some t20) N 0 t
set_option maxHeartbeats 4000000 in
set_option maxRecDepth 100000 in
theorem t_f_X3_sort_L20 {p : Program} {l : Launch} {e : Env} {s : State} {m : MethodId} {args : Array Value} {below : List Frame} {meth : Method} {c : Code} {E : cE} {A : Nat → Prop} {r : Nat → Nat} {mc ms : Nat} {z : St} {o0 : Nat} (ho0 : o0 < 2) {N : Nat} {K11 : (Int → St → Option (St))} {y7 : Int} {y8 : Int} (X : gX p s m meth c cX3_sort 4 none yX3_sort args E A) (hK11 : ∀ (q3 : Int) (t9 : St), K11 q3 t9 = some z → gP p l e rm_f_X3_sort s m args below meth c E A 4 (MQ below ((gqV E (gW E r shH) z) A) args s mc ms A) (gW E r shH) 62 [(0, .ref (r (305 + o0))), (1, iv y7), (3, iv q3)] [] t9) : ∀ (n9 : Nat) (x9 : Int) (t10 : St), f_X3_sort_L20 N o0 K11 y8 n9 x9 t10 = some z → gP p l e rm_f_X3_sort s m args below meth c E A 4 (MQ below ((gqV E (gW E r shH) z) A) args s mc ms A) (gW E r shH) 20 [(0, .ref (r (305 + o0))), (1, iv y7), (2, iv y8), (3, iv x9)] [] t10 := by
  intro n9
  induction n9 with
  | zero => intro x9 t10 h; cases h
  | succ n9 ih =>
    intro x9 t10 h
    unfold f_X3_sort_L20 at h
    refine g_iload_n X dX3_sort_20 3 rfl ?_
    refine g_if_le (tgt := 62) X dX3_sort_21 (by decide) h (fun h => ?_) (fun h => ?_)
    · exact g_sub (lv' := [(0, .ref (r (305 + o0))), (1, iv y7), (3, iv x9)]) [0, 1, 3] rfl (hK11 x9 t10 h)
    · refine g_aload_n X dX3_sort_24 0 rfl ?_
      refine g_aload_n X dX3_sort_25 0 rfl ?_
      refine g_getR X (fH_X3_27_o (o := o0) ho0) rfl dX3_sort_26 ?_
      refine g_iload_n X dX3_sort_29 3 rfl ?_
      refine g_iconst X dX3_sort_30 ?_
      refine g_isub X dX3_sort_31 ?_
      refine g_iald X (aF_5 (o := o0) ho0) dX3_sort_32 h (fun v12 h => ?_)
      refine g_callOI (rest := []) X (fun u9 h9 => cp_X3_codeAt l E r N o0 ho0 v12 t10 u9 h9) yy_X3_codeAt yi_X3_codeAt wdM_RX3_65 (oX3 (o := o0) ho0) rfl rfl rfl (Nat.le_of_ble_eq_true rfl) dX3_sort_33 ⟨by decide, by decide⟩ ⟨rfl, rfl⟩ h (fun v14 t13 h => ?_)
      refine g_iconst X dX3_sort_36 ?_
      refine g_shr X 2 (by decide) (M := 4) (by decide) (by decide) dX3_sort_37 h (fun h => ?_)
      refine g_iload_n X dX3_sort_38 2 rfl ?_
      refine g_icmp_le (tgt := 62) X dX3_sort_39 (by decide) h (fun h => ?_) (fun h => ?_)
      · exact g_sub (lv' := [(0, .ref (r (305 + o0))), (1, iv y7), (3, iv x9)]) [0, 1, 3] rfl (hK11 x9 t13 h)
      · refine g_aload_n X dX3_sort_42 0 rfl ?_
        refine g_getR X (fH_X3_27_o (o := o0) ho0) rfl dX3_sort_43 ?_
        refine g_iload_n X dX3_sort_46 3 rfl ?_
        refine g_aload_n X dX3_sort_47 0 rfl ?_
        refine g_getR X (fH_X3_27_o (o := o0) ho0) rfl dX3_sort_48 ?_
        refine g_iload_n X dX3_sort_51 3 rfl ?_
        refine g_iconst X dX3_sort_52 ?_
        refine g_isub X dX3_sort_53 ?_
        refine g_iald X (aF_5 (o := o0) ho0) dX3_sort_54 h (fun v15 h => ?_)
        refine g_iast X (aF_5 (o := o0) ho0) dX3_sort_55 h (fun t16 h => ?_)
        refine g_iinc (lv' := [(3, iv (x9 + (-1))), (0, .ref (r (305 + o0))), (1, iv y7), (2, iv y8)]) X dX3_sort_56 (k := 3) rfl (by decide) rfl ?_
        refine g_goto (tgt := 20) X dX3_sort_59 (by decide) ?_
        exact g_sub (lv' := [(0, .ref (r (305 + o0))), (1, iv y7), (2, iv y8), (3, iv (x9 + (-1)))]) [1, 2, 3, 0] rfl (ih (x9 + (-1)) t16 h)
set_option maxHeartbeats 4000000 in
set_option maxRecDepth 100000 in
theorem t_f_X3_sort_L2 {p : Program} {l : Launch} {e : Env} {s : State} {m : MethodId} {args : Array Value} {below : List Frame} {meth : Method} {c : Code} {E : cE} {A : Nat → Prop} {r : Nat → Nat} {mc ms : Nat} {z : St} {o0 : Nat} (ho0 : o0 < 2) {N : Nat} {K3 : (St → Option (St))} (X : gX p s m meth c cX3_sort 4 none yX3_sort args E A) (hK3 : ∀ (t9 : St), K3 t9 = some z → gP p l e rm_f_X3_sort s m args below meth c E A 4 (MQ below ((gqV E (gW E r shH) z) A) args s mc ms A) (gW E r shH) 75 [] [] t9) : ∀ (n9 : Nat) (x1 : Int) (t2 : St), f_X3_sort_L2 N o0 K3 n9 x1 t2 = some z → gP p l e rm_f_X3_sort s m args below meth c E A 4 (MQ below ((gqV E (gW E r shH) z) A) args s mc ms A) (gW E r shH) 2 [(0, .ref (r (305 + o0))), (1, iv x1)] [] t2 := by
  intro n9
  induction n9 with
  | zero => intro x1 t2 h; cases h
  | succ n9 ih =>
    intro x1 t2 h
    unfold f_X3_sort_L2 at h
    refine g_iload_n X dX3_sort_2 1 rfl ?_
    refine g_aload_n X dX3_sort_3 0 rfl ?_
    refine g_getI X (fH_X3_61_o (o := o0) ho0) rfl dX3_sort_4 h (fun v4 h => ?_)
    refine g_icmp_ge (tgt := 75) X dX3_sort_7 (by decide) h (fun h => ?_) (fun h => ?_)
    · exact g_sub (lv' := []) [] rfl (hK3 t2 h)
    · refine g_aload_n X dX3_sort_10 0 rfl ?_
      refine g_iload_n X dX3_sort_11 1 rfl ?_
      refine g_callOI (rest := []) X (fun u9 h9 => cp_X3_codeAt l E r N o0 ho0 x1 t2 u9 h9) yy_X3_codeAt yi_X3_codeAt wdM_RX3_65 (oX3 (o := o0) ho0) rfl rfl rfl (Nat.le_of_ble_eq_true rfl) dX3_sort_12 ⟨by decide, by decide⟩ ⟨rfl, rfl⟩ h (fun v6 t5 h => ?_)
      refine g_iconst X dX3_sort_15 ?_
      refine g_shr X 2 (by decide) (M := 4) (by decide) (by decide) dX3_sort_16 h (fun h => ?_)
      refine g_istore_n (lv' := [(2, iv (v6 / 4)), (0, .ref (r (305 + o0))), (1, iv x1)]) X dX3_sort_17 rfl (by decide) rfl ?_
      refine g_iload_n X dX3_sort_18 2 rfl ?_
      refine g_istore_n (lv' := [(3, iv x1), (2, iv (v6 / 4)), (0, .ref (r (305 + o0))), (1, iv x1)]) X dX3_sort_19 rfl (by decide) rfl ?_
      refine g_sub (lv' := [(0, .ref (r (305 + o0))), (1, iv x1), (2, iv (v6 / 4)), (3, iv x1)]) [2, 3, 1, 0] rfl (t_f_X3_sort_L20 ho0 X (fun k17 t18 h => ?_) N x1 t5 h)
      · refine g_aload_n X dX3_sort_62 0 rfl ?_
        refine g_getR X (fH_X3_27_o (o := o0) ho0) rfl dX3_sort_63 ?_
        refine g_iload_n X dX3_sort_66 2 rfl ?_
        refine g_iload_n X dX3_sort_67 1 rfl ?_
        refine g_iast X (aF_5 (o := o0) ho0) dX3_sort_68 h (fun t19 h => ?_)
        refine g_iinc (lv' := [(1, iv (x1 + 1)), (0, .ref (r (305 + o0))), (3, iv k17)]) X dX3_sort_69 (k := 1) rfl (by decide) rfl ?_
        refine g_goto (tgt := 2) X dX3_sort_72 (by decide) ?_
        exact g_sub (lv' := [(0, .ref (r (305 + o0))), (1, iv (x1 + 1))]) [1, 0] rfl (ih (x1 + 1) t19 h)
set_option maxHeartbeats 4000000 in
set_option maxRecDepth 100000 in
theorem b_f_X3_sort {p : Program} {l : Launch} {e : Env} {s : State} {m : MethodId} {args : Array Value} {below : List Frame} {meth : Method} {c : Code} {E : cE} {A : Nat → Prop} {r : Nat → Nat} {mc ms : Nat} {z : St} {N : Nat} {o0 : Nat} (ho0 : o0 < 2) {t : St} (X : gX p s m meth c cX3_sort 4 none yX3_sort args E A) (h : f_X3_sort N o0 t = some z) : gP p l e rm_f_X3_sort s m args below meth c E A 4 (MQ below ((gqV E (gW E r shH) z) A) args s mc ms A) (gW E r shH) 0 [(0, .ref (r (305 + o0)))] [] t := by
  unfold f_X3_sort at h
  refine g_iconst X dX3_sort_0 ?_
  refine g_istore_n (lv' := [(1, iv 0), (0, .ref (r (305 + o0)))]) X dX3_sort_1 rfl (by decide) rfl ?_
  refine g_sub (lv' := [(0, .ref (r (305 + o0))), (1, iv 0)]) [1, 0] rfl (t_f_X3_sort_L2 ho0 X (fun t20 h => ?_) N 0 t h)
  · exact g_vret X h dX3_sort_75
set_option maxHeartbeats 4000000 in
set_option maxRecDepth 100000 in
theorem cp_X3_sort (l : Launch) (E : cE) (r : Nat → Nat) (N : Nat) (o0 : Nat) (ho0 : o0 < 2) (t : St) (z : St) (h : f_X3_sort N o0 t = some z) : cM l E yX3_sort cX3_sort 4 none rm_f_X3_sort [.ref (r (305 + o0))] (gW E r shH t) (gqV E (gW E r shH) z) := by
  refine g_of (w := gW E r shH) (by decide) (Nat.le_of_ble_eq_true rfl) ?_
  intro p e s m below meth c A X
  exact g_sub (lv' := [(0, .ref (r (305 + o0)))]) [0] rfl (b_f_X3_sort ho0 X h)
abbrev rm_f_X3_place : Room := { frames := 3, cells := 0, slots := 0, locals := 66 }
def f_X3_place_L2 (N : Nat) (o0 : Nat) (K4 : (St → Option (St))) : Nat → Int → St → Option (St)
  | 0, _, _ => none
  | n9 + 1, x2, t3 =>
    lt1 (t3.1 (305 + o0) 8) fun v5 =>
    cmpI x2 v5 (if x2 < v5 then (bdI (f_X3_codeAt N o0 x2 t3) fun v7 t6 =>
    rnI v7 (
    ixI (v7 / 4) 4096 (lt1 (pI t6 (397 + 10 * o0) (v7 / 4).toNat (b8 0)) fun t8 =>
    f_X3_place_L2 N o0 K4 n9 (x2 + 1) t8)))
    else (K4 t3))
def f_X3_place_L54 (o0 : Nat) (q0 : Nat) (n0 : Nat) (K14 : (St → Option (St))) : Nat → Int → St → Option (St)
  | 0, _, _ => none
  | n9 + 1, x12, t13 =>
    lt1 (t13.1 (305 + o0) 8) fun v15 =>
    cmpI x12 v15 (if x12 < v15 then (ixI x12 n0 (lt1 (t13.1 q0 x12.toNat) fun v16 =>
    rnI v16 (
    ixI x12 64 (lt1 (pI t13 (390 + 10 * o0) x12.toNat ((((v16 / 4) % 4096) % 64) * 4)) fun t17 =>
    rnI ((v16 / 4) % 4096) (
    ixI x12 64 (lt1 (pI t17 (391 + 10 * o0) x12.toNat ((((v16 / 4) % 4096) / 64) * 4)) fun t18 =>
    ixI x12 n0 (lt1 (t18.1 q0 x12.toNat) fun v19 =>
    ixI x12 64 (lt1 (pI t18 (392 + 10 * o0) x12.toNat (v19 % 4)) fun t20 =>
    ixI x12 64 (lt1 (t20.1 (392 + 10 * o0) x12.toNat) fun v21 =>
    ixI v21 4 (lt1 (t20.2 (396 + 10 * o0) v21.toNat) fun v22 =>
    ixI v21 4 (lt1 (pL t20 (396 + 10 * o0) v21.toNat (v22 ||| (shlL (1 : Int64) x12))) fun t23 =>
    ixI ((v16 / 4) % 4096) 4096 (lt1 (pI t23 (397 + 10 * o0) ((v16 / 4) % 4096).toNat (b8 (b8 (x12 + 1)))) fun t24 =>
    f_X3_place_L54 o0 q0 n0 K14 n9 (x12 + 1) t24))))))))))))
    else (K14 t13))
def f_X3_place (N : Nat) (o0 : Nat) (q0 : Nat) (n0 : Nat) (a1 : Int) (t : St) : Option (St) :=
    f_X3_place_L2 N o0 (fun (t9 : St) => cmpI ((n0 : Nat) : Int) 64 (
    cmpI a1 (min ((n0 : Nat) : Int) 64) (
    lt1 (pI t9 (305 + o0) 8 (min a1 (min ((n0 : Nat) : Int) 64))) fun t10 =>
    bdV (f_J7_fill_d0a16 N (396 + 10 * o0) 4 (0 : Int64) t10) fun t11 =>
    f_X3_place_L54 o0 q0 n0 (fun (t25 : St) => bdV (f_X3_sort N o0 t25) fun t26 =>
    lt1 (t26.1 (305 + o0) 9) fun v27 =>
    lt1 (pI t26 (305 + o0) 9 (v27 + 1)) fun t28 =>
    some t28) N 0 t11))) N 0 t
set_option maxHeartbeats 4000000 in
set_option maxRecDepth 100000 in
theorem t_f_X3_place_L2 {p : Program} {l : Launch} {e : Env} {s : State} {m : MethodId} {args : Array Value} {below : List Frame} {meth : Method} {c : Code} {E : cE} {A : Nat → Prop} {r : Nat → Nat} {mc ms : Nat} {z : St} {o0 : Nat} (ho0 : o0 < 2) {q0 n0 : Nat} (hq0 : gA shH q0 1 n0) {N : Nat} {K4 : (St → Option (St))} {y1 : Int} (X : gX p s m meth c cX3_place 5 none yX3_place args E A) (hK4 : ∀ (t9 : St), K4 t9 = some z → gP p l e rm_f_X3_place s m args below meth c E A 5 (MQ below ((gqV E (gW E r shH) z) A) args s mc ms A) (gW E r shH) 29 [(0, .ref (r (305 + o0))), (1, .ref (r q0)), (2, iv y1)] [] t9) : ∀ (n9 : Nat) (x2 : Int) (t3 : St), f_X3_place_L2 N o0 K4 n9 x2 t3 = some z → gP p l e rm_f_X3_place s m args below meth c E A 5 (MQ below ((gqV E (gW E r shH) z) A) args s mc ms A) (gW E r shH) 2 [(0, .ref (r (305 + o0))), (1, .ref (r q0)), (2, iv y1), (3, iv x2)] [] t3 := by
  intro n9
  induction n9 with
  | zero => intro x2 t3 h; cases h
  | succ n9 ih =>
    intro x2 t3 h
    unfold f_X3_place_L2 at h
    refine g_iload_n X dX3_place_2 3 rfl ?_
    refine g_aload_n X dX3_place_3 0 rfl ?_
    refine g_getI X (fH_X3_61_o (o := o0) ho0) rfl dX3_place_4 h (fun v5 h => ?_)
    refine g_icmp_ge (tgt := 29) X dX3_place_7 (by decide) h (fun h => ?_) (fun h => ?_)
    · exact g_sub (lv' := [(0, .ref (r (305 + o0))), (1, .ref (r q0)), (2, iv y1)]) [0, 1, 2] rfl (hK4 t3 h)
    · refine g_aload_n X dX3_place_10 0 rfl ?_
      refine g_getR X (fH_X3_34_o (o := o0) ho0) rfl dX3_place_11 ?_
      refine g_aload_n X dX3_place_14 0 rfl ?_
      refine g_iload_n X dX3_place_15 3 rfl ?_
      refine g_callOI (rest := [.ref (r (397 + 10 * o0))]) X (fun u9 h9 => cp_X3_codeAt l E r N o0 ho0 x2 t3 u9 h9) yy_X3_codeAt yi_X3_codeAt wdM_RX3_65 (oX3 (o := o0) ho0) rfl rfl rfl (Nat.le_of_ble_eq_true rfl) dX3_place_16 ⟨by decide, by decide⟩ ⟨rfl, rfl⟩ h (fun v7 t6 h => ?_)
      refine g_iconst X dX3_place_19 ?_
      refine g_shr X 2 (by decide) (M := 4) (by decide) (by decide) dX3_place_20 h (fun h => ?_)
      refine g_iconst X dX3_place_21 ?_
      refine g_bast X (aF_7 (o := o0) ho0) dX3_place_22 h (fun t8 h => ?_)
      refine g_iinc (lv' := [(3, iv (x2 + 1)), (0, .ref (r (305 + o0))), (1, .ref (r q0)), (2, iv y1)]) X dX3_place_23 (k := 3) rfl (by decide) rfl ?_
      refine g_goto (tgt := 2) X dX3_place_26 (by decide) ?_
      exact g_sub (lv' := [(0, .ref (r (305 + o0))), (1, .ref (r q0)), (2, iv y1), (3, iv (x2 + 1))]) [1, 2, 3, 0] rfl (ih (x2 + 1) t8 h)
set_option maxHeartbeats 4000000 in
set_option maxRecDepth 100000 in
theorem t_f_X3_place_L54 {p : Program} {l : Launch} {e : Env} {s : State} {m : MethodId} {args : Array Value} {below : List Frame} {meth : Method} {c : Code} {E : cE} {A : Nat → Prop} {r : Nat → Nat} {mc ms : Nat} {z : St} {o0 : Nat} (ho0 : o0 < 2) {q0 n0 : Nat} (hq0 : gA shH q0 1 n0) {K14 : (St → Option (St))} (X : gX p s m meth c cX3_place 5 none yX3_place args E A) (hK14 : ∀ (t9 : St), K14 t9 = some z → gP p l e rm_f_X3_place s m args below meth c E A 5 (MQ below ((gqV E (gW E r shH) z) A) args s mc ms A) (gW E r shH) 144 [(0, .ref (r (305 + o0)))] [] t9) : ∀ (n9 : Nat) (x12 : Int) (t13 : St), f_X3_place_L54 o0 q0 n0 K14 n9 x12 t13 = some z → gP p l e rm_f_X3_place s m args below meth c E A 5 (MQ below ((gqV E (gW E r shH) z) A) args s mc ms A) (gW E r shH) 54 [(0, .ref (r (305 + o0))), (1, .ref (r q0)), (3, iv x12)] [] t13 := by
  intro n9
  induction n9 with
  | zero => intro x12 t13 h; cases h
  | succ n9 ih =>
    intro x12 t13 h
    unfold f_X3_place_L54 at h
    refine g_iload_n X dX3_place_54 2 rfl ?_
    refine g_aload_n X dX3_place_55 0 rfl ?_
    refine g_getI X (fH_X3_61_o (o := o0) ho0) rfl dX3_place_56 h (fun v15 h => ?_)
    refine g_icmp_ge (tgt := 144) X dX3_place_59 (by decide) h (fun h => ?_) (fun h => ?_)
    · exact g_sub (lv' := [(0, .ref (r (305 + o0)))]) [0] rfl (hK14 t13 h)
    · refine g_aload_n X dX3_place_62 1 rfl ?_
      refine g_iload_n X dX3_place_63 2 rfl ?_
      refine g_iald X hq0 dX3_place_64 h (fun v16 h => ?_)
      refine g_iconst X dX3_place_65 ?_
      refine g_shr X 2 (by decide) (M := 4) (by decide) (by decide) dX3_place_66 h (fun h => ?_)
      refine g_sipush X dX3_place_67 (by decide) ?_
      refine g_mask X 12 (by decide) (M := 4096) (by decide) (by decide) dX3_place_70 ?_
      refine g_istore (lv' := [(4, iv ((v16 / 4) % 4096)), (0, .ref (r (305 + o0))), (1, .ref (r q0)), (3, iv x12)]) X dX3_place_71 (by decide) rfl ?_
      refine g_aload_n X dX3_place_73 1 rfl ?_
      refine g_getR X (fH_X3_9_o (o := o0) ho0) rfl dX3_place_74 ?_
      refine g_iload_n X dX3_place_77 3 rfl ?_
      refine g_iload X dX3_place_78 0 rfl ?_
      refine g_bipush X dX3_place_80 (by decide) ?_
      refine g_mask X 6 (by decide) (M := 64) (by decide) (by decide) dX3_place_82 ?_
      refine g_iconst X dX3_place_83 ?_
      refine g_shl X 2 (by decide) (M := 4) (by decide) (by decide) dX3_place_84 ?_
      refine g_iast X (aF_0 (o := o0) ho0) dX3_place_85 h (fun t17 h => ?_)
      refine g_aload_n X dX3_place_86 1 rfl ?_
      refine g_getR X (fH_X3_15_o (o := o0) ho0) rfl dX3_place_87 ?_
      refine g_iload_n X dX3_place_90 3 rfl ?_
      refine g_iload X dX3_place_91 0 rfl ?_
      refine g_bipush X dX3_place_93 (by decide) ?_
      refine g_shr X 6 (by decide) (M := 64) (by decide) (by decide) dX3_place_95 h (fun h => ?_)
      refine g_iconst X dX3_place_96 ?_
      refine g_shl X 2 (by decide) (M := 4) (by decide) (by decide) dX3_place_97 ?_
      refine g_iast X (aF_1 (o := o0) ho0) dX3_place_98 h (fun t18 h => ?_)
      refine g_aload_n X dX3_place_99 1 rfl ?_
      refine g_getR X (fH_X3_18_o (o := o0) ho0) rfl dX3_place_100 ?_
      refine g_iload_n X dX3_place_103 3 rfl ?_
      refine g_aload_n X dX3_place_104 2 rfl ?_
      refine g_iload_n X dX3_place_105 3 rfl ?_
      refine g_iald X hq0 dX3_place_106 h (fun v19 h => ?_)
      refine g_iconst X dX3_place_107 ?_
      refine g_mask X 2 (by decide) (M := 4) (by decide) (by decide) dX3_place_108 ?_
      refine g_iast X (aF_2 (o := o0) ho0) dX3_place_109 h (fun t20 h => ?_)
      refine g_aload_n X dX3_place_110 1 rfl ?_
      refine g_getR X (fH_X3_30_o (o := o0) ho0) rfl dX3_place_111 ?_
      refine g_aload_n X dX3_place_114 1 rfl ?_
      refine g_getR X (fH_X3_18_o (o := o0) ho0) rfl dX3_place_115 ?_
      refine g_iload_n X dX3_place_118 3 rfl ?_
      refine g_iald X (aF_2 (o := o0) ho0) dX3_place_119 h (fun v21 h => ?_)
      refine g_dup2 X rfl rfl dX3_place_120 ?_
      refine g_lald X (aF_6 (o := o0) ho0) dX3_place_121 h (fun v22 h => ?_)
      refine g_lconst (v := 1) X dX3_place_122 (by decide) ?_
      refine g_iload_n X dX3_place_123 3 rfl ?_
      refine g_lshl X dX3_place_124 ?_
      refine g_lor X dX3_place_125 ?_
      refine g_last X (aF_6 (o := o0) ho0) dX3_place_126 h (fun t23 h => ?_)
      refine g_aload_n X dX3_place_127 1 rfl ?_
      refine g_getR X (fH_X3_34_o (o := o0) ho0) rfl dX3_place_128 ?_
      refine g_iload X dX3_place_131 0 rfl ?_
      refine g_iload_n X dX3_place_133 3 rfl ?_
      refine g_iconst X dX3_place_134 ?_
      refine g_iadd X dX3_place_135 ?_
      refine g_i2b X dX3_place_136 ?_
      refine g_bast X (aF_7 (o := o0) ho0) dX3_place_137 h (fun t24 h => ?_)
      refine g_iinc (lv' := [(3, iv (x12 + 1)), (4, iv ((v16 / 4) % 4096)), (0, .ref (r (305 + o0))), (1, .ref (r q0))]) X dX3_place_138 (k := 3) rfl (by decide) rfl ?_
      refine g_goto (tgt := 54) X dX3_place_141 (by decide) ?_
      exact g_sub (lv' := [(0, .ref (r (305 + o0))), (1, .ref (r q0)), (3, iv (x12 + 1))]) [2, 3, 0] rfl (ih (x12 + 1) t24 h)
set_option maxHeartbeats 4000000 in
set_option maxRecDepth 100000 in
theorem b_f_X3_place {p : Program} {l : Launch} {e : Env} {s : State} {m : MethodId} {args : Array Value} {below : List Frame} {meth : Method} {c : Code} {E : cE} {A : Nat → Prop} {r : Nat → Nat} {mc ms : Nat} {z : St} {N : Nat} {o0 : Nat} (ho0 : o0 < 2) {q0 n0 : Nat} (hq0 : gA shH q0 1 n0) {a1 : Int} {t : St} (X : gX p s m meth c cX3_place 5 none yX3_place args E A) (h : f_X3_place N o0 q0 n0 a1 t = some z) : gP p l e rm_f_X3_place s m args below meth c E A 5 (MQ below ((gqV E (gW E r shH) z) A) args s mc ms A) (gW E r shH) 0 [(0, .ref (r (305 + o0))), (1, .ref (r q0)), (2, iv a1)] [] t := by
  unfold f_X3_place at h
  refine g_iconst X dX3_place_0 ?_
  refine g_istore_n (lv' := [(3, iv 0), (0, .ref (r (305 + o0))), (1, .ref (r q0)), (2, iv a1)]) X dX3_place_1 rfl (by decide) rfl ?_
  refine g_sub (lv' := [(0, .ref (r (305 + o0))), (1, .ref (r q0)), (2, iv a1), (3, iv 0)]) [1, 2, 3, 0] rfl (t_f_X3_place_L2 ho0 hq0 X (fun t9 h => ?_) N 0 t h)
  · refine g_aload_n X dX3_place_29 0 rfl ?_
    refine g_iload_n X dX3_place_30 2 rfl ?_
    refine g_aload_n X dX3_place_31 1 rfl ?_
    refine g_alen1 X hq0 dX3_place_32 ?_
    refine g_bipush X dX3_place_33 (by decide) ?_
    refine g_mmin X wdM_RX3_48 (by decide) (Nat.le_of_ble_eq_true rfl) dX3_place_35 h (fun h => ?_)
    refine g_mmin X wdM_RX3_48 (by decide) (Nat.le_of_ble_eq_true rfl) dX3_place_38 h (fun h => ?_)
    refine g_putI X (fH_X3_61_ow (o := o0) ho0) rfl dX3_place_41 h (fun t10 h => ?_)
    refine g_aload_n X dX3_place_44 0 rfl ?_
    refine g_getR X (fH_X3_30_o (o := o0) ho0) rfl dX3_place_45 ?_
    refine g_lconst (v := 0) X dX3_place_48 (by decide) ?_
    refine g_callsV (rest := []) X (fun u9 h9 => cp_J7_fill_d0a16 l E r N (396 + 10 * o0) 4 (aF_6 (o := o0) ho0) (0 : Int64) t10 u9 h9) yy_J7_fill_d0a16 wdT_J7_fill_d0a16 wdM_RX3_69 rfl rfl (Nat.le_of_ble_eq_true rfl) dX3_place_49 ⟨by decide, by decide⟩ ⟨rfl, rfl⟩ h (fun t11 h => ?_)
    refine g_iconst X dX3_place_52 ?_
    refine g_istore_n (lv' := [(3, iv 0), (0, .ref (r (305 + o0))), (1, .ref (r q0)), (2, iv a1)]) X dX3_place_53 rfl (by decide) rfl ?_
    refine g_sub (lv' := [(0, .ref (r (305 + o0))), (1, .ref (r q0)), (3, iv 0)]) [1, 2, 0] rfl (t_f_X3_place_L54 ho0 hq0 X (fun t25 h => ?_) N 0 t11 h)
    · refine g_aload_n X dX3_place_144 0 rfl ?_
      refine g_callOV (rest := []) X (fun u9 h9 => cp_X3_sort l E r N o0 ho0 t25 u9 h9) yy_X3_sort yi_X3_sort wdM_RX3_75 (oX3 (o := o0) ho0) rfl rfl rfl (Nat.le_of_ble_eq_true rfl) dX3_place_145 ⟨by decide, by decide⟩ ⟨rfl, rfl⟩ h (fun t26 h => ?_)
      refine g_aload_n X dX3_place_148 0 rfl ?_
      refine g_dup X rfl dX3_place_149 ?_
      refine g_getI X (fH_X3_78_o (o := o0) ho0) rfl dX3_place_150 h (fun v27 h => ?_)
      refine g_iconst X dX3_place_153 ?_
      refine g_iadd X dX3_place_154 ?_
      refine g_putI X (fH_X3_78_ow (o := o0) ho0) rfl dX3_place_155 h (fun t28 h => ?_)
      exact g_vret X h dX3_place_158
set_option maxHeartbeats 4000000 in
set_option maxRecDepth 100000 in
theorem cp_X3_place (l : Launch) (E : cE) (r : Nat → Nat) (N : Nat) (o0 : Nat) (ho0 : o0 < 2) (q0 n0 : Nat) (hq0 : gA shH q0 1 n0) (a1 : Int) (t : St) (z : St) (h : f_X3_place N o0 q0 n0 a1 t = some z) : cM l E yX3_place cX3_place 5 none rm_f_X3_place [.ref (r (305 + o0)), .ref (r q0), iv a1] (gW E r shH t) (gqV E (gW E r shH) z) := by
  refine g_of (w := gW E r shH) (by decide) (Nat.le_of_ble_eq_true rfl) ?_
  intro p e s m below meth c A X
  exact g_sub (lv' := [(0, .ref (r (305 + o0))), (1, .ref (r q0)), (2, iv a1)]) [0, 1, 2] rfl (b_f_X3_place ho0 hq0 X h)
theorem dX1_settle_0 : decode cX1_settle 0 = .ok (.iconst 0, 1) := by decide +kernel
theorem dX1_settle_1 : decode cX1_settle 1 = .ok (.istore_n 2, 1) := by decide +kernel
theorem dX1_settle_2 : decode cX1_settle 2 = .ok (.iload_n 2, 1) := by decide +kernel
theorem dX1_settle_3 : decode cX1_settle 3 = .ok (.aload_n 1, 1) := by decide +kernel
theorem dX1_settle_4 : decode cX1_settle 4 = .ok (.getfield 149, 3) := by decide +kernel
theorem dX1_settle_7 : decode cX1_settle 7 = .ok (.if_icmp .ge 24, 3) := by decide +kernel
theorem dX1_settle_10 : decode cX1_settle 10 = .ok (.aload_n 1, 1) := by decide +kernel
theorem dX1_settle_11 : decode cX1_settle 11 = .ok (.getfield 155, 3) := by decide +kernel
theorem dX1_settle_14 : decode cX1_settle 14 = .ok (.iload_n 2, 1) := by decide +kernel
theorem dX1_settle_15 : decode cX1_settle 15 = .ok (.dup2, 1) := by decide +kernel
theorem dX1_settle_16 : decode cX1_settle 16 = .ok (.iaload, 1) := by decide +kernel
theorem dX1_settle_17 : decode cX1_settle 17 = .ok (.aload_n 0, 1) := by decide +kernel
theorem dX1_settle_18 : decode cX1_settle 18 = .ok (.getfield 28, 3) := by decide +kernel
theorem dX1_settle_21 : decode cX1_settle 21 = .ok (.iload_n 2, 1) := by decide +kernel
theorem dX1_settle_22 : decode cX1_settle 22 = .ok (.iaload, 1) := by decide +kernel
theorem dX1_settle_23 : decode cX1_settle 23 = .ok (.iadd, 1) := by decide +kernel
theorem dX1_settle_24 : decode cX1_settle 24 = .ok (.iastore, 1) := by decide +kernel
theorem dX1_settle_25 : decode cX1_settle 25 = .ok (.iinc 2 1, 3) := by decide +kernel
theorem dX1_settle_28 : decode cX1_settle 28 = .ok (.goto (-26), 3) := by decide +kernel
theorem dX1_settle_31 : decode cX1_settle 31 = .ok (.aload_n 1, 1) := by decide +kernel
theorem dX1_settle_32 : decode cX1_settle 32 = .ok (.aload_n 0, 1) := by decide +kernel
theorem dX1_settle_33 : decode cX1_settle 33 = .ok (.getfield 31, 3) := by decide +kernel
theorem dX1_settle_36 : decode cX1_settle 36 = .ok (.aload_n 1, 1) := by decide +kernel
theorem dX1_settle_37 : decode cX1_settle 37 = .ok (.getfield 149, 3) := by decide +kernel
theorem dX1_settle_40 : decode cX1_settle 40 = .ok (.invokevirtual 158, 3) := by decide +kernel
theorem dX1_settle_43 : decode cX1_settle 43 = .ok (.return_, 1) := by decide +kernel
abbrev rm_f_X1_settle : Room := { frames := 4, cells := 0, slots := 0, locals := 90 }
def f_X1_settle_L2 (o1 : Nat) (K3 : (St → Option (St))) : Nat → Int → St → Option (St)
  | 0, _, _ => none
  | n9 + 1, x1, t2 =>
    lt1 (t2.1 (305 + o1) 8) fun v4 =>
    cmpI x1 v4 (if x1 < v4 then (ixI x1 64 (lt1 (t2.1 (393 + 10 * o1) x1.toNat) fun v5 =>
    ixI x1 64 (lt1 (t2.1 375 x1.toNat) fun v6 =>
    ixI x1 64 (lt1 (pI t2 (393 + 10 * o1) x1.toNat (v5 + v6)) fun t7 =>
    f_X1_settle_L2 o1 K3 n9 (x1 + 1) t7))))
    else (K3 t2))
def f_X1_settle (N : Nat) (o1 : Nat) (t : St) : Option (St) :=
    f_X1_settle_L2 o1 (fun (t8 : St) => lt1 (t8.1 (305 + o1) 8) fun v9 =>
    bdV (f_X3_place N o1 376 64 v9 t8) fun t10 =>
    some t10) N 0 t
set_option maxHeartbeats 4000000 in
set_option maxRecDepth 100000 in
theorem t_f_X1_settle_L2 {p : Program} {l : Launch} {e : Env} {s : State} {m : MethodId} {args : Array Value} {below : List Frame} {meth : Method} {c : Code} {E : cE} {A : Nat → Prop} {r : Nat → Nat} {mc ms : Nat} {z : St} {o1 : Nat} (ho1 : o1 < 2) {K3 : (St → Option (St))} (X : gX p s m meth c cX1_settle 3 none yX1_settle args E A) (hK3 : ∀ (t9 : St), K3 t9 = some z → gP p l e rm_f_X1_settle s m args below meth c E A 3 (MQ below ((gqV E (gW E r shH) z) A) args s mc ms A) (gW E r shH) 31 [(0, .ref (r 304)), (1, .ref (r (305 + o1)))] [] t9) : ∀ (n9 : Nat) (x1 : Int) (t2 : St), f_X1_settle_L2 o1 K3 n9 x1 t2 = some z → gP p l e rm_f_X1_settle s m args below meth c E A 3 (MQ below ((gqV E (gW E r shH) z) A) args s mc ms A) (gW E r shH) 2 [(0, .ref (r 304)), (1, .ref (r (305 + o1))), (2, iv x1)] [] t2 := by
  intro n9
  induction n9 with
  | zero => intro x1 t2 h; cases h
  | succ n9 ih =>
    intro x1 t2 h
    unfold f_X1_settle_L2 at h
    refine g_iload_n X dX1_settle_2 2 rfl ?_
    refine g_aload_n X dX1_settle_3 1 rfl ?_
    refine g_getI X (fH_X1_149_o (o := o1) ho1) rfl dX1_settle_4 h (fun v4 h => ?_)
    refine g_icmp_ge (tgt := 31) X dX1_settle_7 (by decide) h (fun h => ?_) (fun h => ?_)
    · exact g_sub (lv' := [(0, .ref (r 304)), (1, .ref (r (305 + o1)))]) [0, 1] rfl (hK3 t2 h)
    · refine g_aload_n X dX1_settle_10 1 rfl ?_
      refine g_getR X (fH_X1_155_o (o := o1) ho1) rfl dX1_settle_11 ?_
      refine g_iload_n X dX1_settle_14 2 rfl ?_
      refine g_dup2 X rfl rfl dX1_settle_15 ?_
      refine g_iald X (aF_3 (o := o1) ho1) dX1_settle_16 h (fun v5 h => ?_)
      refine g_aload_n X dX1_settle_17 0 rfl ?_
      refine g_getR X fH_X1_28_304 rfl dX1_settle_18 ?_
      refine g_iload_n X dX1_settle_21 2 rfl ?_
      refine g_iald X aH_375 dX1_settle_22 h (fun v6 h => ?_)
      refine g_iadd X dX1_settle_23 ?_
      refine g_iast X (aF_3 (o := o1) ho1) dX1_settle_24 h (fun t7 h => ?_)
      refine g_iinc (lv' := [(2, iv (x1 + 1)), (0, .ref (r 304)), (1, .ref (r (305 + o1)))]) X dX1_settle_25 (k := 2) rfl (by decide) rfl ?_
      refine g_goto (tgt := 2) X dX1_settle_28 (by decide) ?_
      exact g_sub (lv' := [(0, .ref (r 304)), (1, .ref (r (305 + o1))), (2, iv (x1 + 1))]) [1, 2, 0] rfl (ih (x1 + 1) t7 h)
set_option maxHeartbeats 4000000 in
set_option maxRecDepth 100000 in
theorem b_f_X1_settle {p : Program} {l : Launch} {e : Env} {s : State} {m : MethodId} {args : Array Value} {below : List Frame} {meth : Method} {c : Code} {E : cE} {A : Nat → Prop} {r : Nat → Nat} {mc ms : Nat} {z : St} {N : Nat} {o1 : Nat} (ho1 : o1 < 2) {t : St} (X : gX p s m meth c cX1_settle 3 none yX1_settle args E A) (h : f_X1_settle N o1 t = some z) : gP p l e rm_f_X1_settle s m args below meth c E A 3 (MQ below ((gqV E (gW E r shH) z) A) args s mc ms A) (gW E r shH) 0 [(0, .ref (r 304)), (1, .ref (r (305 + o1)))] [] t := by
  unfold f_X1_settle at h
  refine g_iconst X dX1_settle_0 ?_
  refine g_istore_n (lv' := [(2, iv 0), (0, .ref (r 304)), (1, .ref (r (305 + o1)))]) X dX1_settle_1 rfl (by decide) rfl ?_
  refine g_sub (lv' := [(0, .ref (r 304)), (1, .ref (r (305 + o1))), (2, iv 0)]) [1, 2, 0] rfl (t_f_X1_settle_L2 ho1 X (fun t8 h => ?_) N 0 t h)
  · refine g_aload_n X dX1_settle_31 1 rfl ?_
    refine g_aload_n X dX1_settle_32 0 rfl ?_
    refine g_getR X fH_X1_31_304 rfl dX1_settle_33 ?_
    refine g_aload_n X dX1_settle_36 1 rfl ?_
    refine g_getI X (fH_X1_149_o (o := o1) ho1) rfl dX1_settle_37 h (fun v9 h => ?_)
    refine g_callOV (rest := []) X (fun u9 h9 => cp_X3_place l E r N o1 ho1 376 64 aH_376 v9 t8 u9 h9) yy_X3_place yi_X3_place wdM_RX1_158 (oX3 (o := o1) ho1) rfl rfl rfl (Nat.le_of_ble_eq_true rfl) dX1_settle_40 ⟨by decide, by decide⟩ ⟨rfl, rfl⟩ h (fun t10 h => ?_)
    exact g_vret X h dX1_settle_43
set_option maxHeartbeats 4000000 in
set_option maxRecDepth 100000 in
theorem cp_X1_settle (l : Launch) (E : cE) (r : Nat → Nat) (N : Nat) (o1 : Nat) (ho1 : o1 < 2) (t : St) (z : St) (h : f_X1_settle N o1 t = some z) : cM l E yX1_settle cX1_settle 3 none rm_f_X1_settle [.ref (r 304), .ref (r (305 + o1))] (gW E r shH t) (gqV E (gW E r shH) z) := by
  refine g_of (w := gW E r shH) (by decide) (Nat.le_of_ble_eq_true rfl) ?_
  intro p e s m below meth c A X
  exact g_sub (lv' := [(0, .ref (r 304)), (1, .ref (r (305 + o1)))]) [0, 1] rfl (b_f_X1_settle ho1 X h)
theorem yy_X1_settle : cY yX1_settle cX1_settle 3 none 1 := ⟨wdK_X1_settle, wdZ_RX1, by decide +kernel⟩
theorem yi_X1_settle : cYi yX1_settle := ⟨wdN_X1_settle, wdS_X1_settle⟩
abbrev rm_f_X3_isSet : Room := { frames := 0, cells := 0, slots := 0, locals := 0 }
def f_X3_isSet (N : Nat) (a0 : Int) (a1 : Int) (t : St) : Option (Int × St) :=
    cmpI a0 0 (if a0 = 0 then (cmpI a1 4 (if a1 = 4 then (boI 1 (some (1, t)))
    else (boI 0 (some (0, t)))))
    else (cmpI a0 1 (if a0 < 1 then (boI 0 (some (0, t)))
    else (cmpI a0 3 (if 3 < a0 then (boI 0 (some (0, t)))
    else (cmpI a1 1 (if a1 < 1 then (boI 0 (some (0, t)))
    else (cmpI a1 32 (if 32 < a1 then (boI 0 (some (0, t)))
    else (boI 1 (some (1, t))))))))))))
set_option maxHeartbeats 4000000 in
set_option maxRecDepth 100000 in
theorem b_f_X3_isSet {p : Program} {l : Launch} {e : Env} {s : State} {m : MethodId} {args : Array Value} {below : List Frame} {meth : Method} {c : Code} {E : cE} {A : Nat → Prop} {r : Nat → Nat} {mc ms : Nat} {z : Int × St} {N : Nat} {a0 : Int} {a1 : Int} {t : St} (X : gX p s m meth c cX3_isSet 2 (some .boolean) yX3_isSet args E A) (h : f_X3_isSet N a0 a1 t = some z) : gP p l e rm_f_X3_isSet s m args below meth c E A 2 (MQ below ((gqI E (gW E r shH) z) A) args s mc ms A) (gW E r shH) 0 [(0, iv a0), (1, iv a1)] [] t := by
  unfold f_X3_isSet at h
  refine g_iload_n X dX3_isSet_0 0 rfl ?_
  refine g_if_ne (tgt := 15) X dX3_isSet_1 (by decide) h (fun h => ?_) (fun h => ?_)
  · refine g_iload_n X dX3_isSet_15 0 rfl ?_
    refine g_iconst X dX3_isSet_16 ?_
    refine g_icmp_lt (tgt := 40) X dX3_isSet_17 (by decide) h (fun h => ?_) (fun h => ?_)
    · refine g_iconst X dX3_isSet_40 ?_
      exact g_zret X h dX3_isSet_41
    · refine g_iload_n X dX3_isSet_20 0 rfl ?_
      refine g_iconst X dX3_isSet_21 ?_
      refine g_icmp_gt (tgt := 40) X dX3_isSet_22 (by decide) h (fun h => ?_) (fun h => ?_)
      · refine g_iconst X dX3_isSet_40 ?_
        exact g_zret X h dX3_isSet_41
      · refine g_iload_n X dX3_isSet_25 1 rfl ?_
        refine g_iconst X dX3_isSet_26 ?_
        refine g_icmp_lt (tgt := 40) X dX3_isSet_27 (by decide) h (fun h => ?_) (fun h => ?_)
        · refine g_iconst X dX3_isSet_40 ?_
          exact g_zret X h dX3_isSet_41
        · refine g_iload_n X dX3_isSet_30 1 rfl ?_
          refine g_bipush X dX3_isSet_31 (by decide) ?_
          refine g_icmp_gt (tgt := 40) X dX3_isSet_33 (by decide) h (fun h => ?_) (fun h => ?_)
          · refine g_iconst X dX3_isSet_40 ?_
            exact g_zret X h dX3_isSet_41
          · refine g_iconst X dX3_isSet_36 ?_
            refine g_goto (tgt := 41) X dX3_isSet_37 (by decide) ?_
            exact g_zret X h dX3_isSet_41
  · refine g_iload_n X dX3_isSet_4 1 rfl ?_
    refine g_iconst X dX3_isSet_5 ?_
    refine g_icmp_ne (tgt := 13) X dX3_isSet_6 (by decide) h (fun h => ?_) (fun h => ?_)
    · refine g_iconst X dX3_isSet_13 ?_
      exact g_zret X h dX3_isSet_14
    · refine g_iconst X dX3_isSet_9 ?_
      refine g_goto (tgt := 14) X dX3_isSet_10 (by decide) ?_
      exact g_zret X h dX3_isSet_14
set_option maxHeartbeats 4000000 in
set_option maxRecDepth 100000 in
theorem cp_X3_isSet (l : Launch) (E : cE) (r : Nat → Nat) (N : Nat) (a0 : Int) (a1 : Int) (t : St) (z : Int × St) (h : f_X3_isSet N a0 a1 t = some z) : cM l E yX3_isSet cX3_isSet 2 (some .boolean) rm_f_X3_isSet [iv a0, iv a1] (gW E r shH t) (gqI E (gW E r shH) z) := by
  refine g_of (w := gW E r shH) (by decide) (Nat.le_of_ble_eq_true rfl) ?_
  intro p e s m below meth c A X
  exact g_sub (lv' := [(0, iv a0), (1, iv a1)]) [0, 1] rfl (b_f_X3_isSet X h)
abbrev rm_f_X3_startOf : Room := { frames := 1, cells := 0, slots := 0, locals := 22 }
def f_X3_startOf (N : Nat) (a0 : Int) (a1 : Int) (t : St) : Option (Int × St) :=
    rnI a1 (
    rnI a0 (if a0 = 0 then (ixI (a1 % 8) 8 (lt1 (sqXZ (a1 % 8).toNat) fun v1 =>
    ixI (a1 % 8) 8 (lt1 (sqYZ (a1 % 8).toNat) fun v2 =>
    bdI (f_X3_codeOf N v1 v2 ((-(a1 / 2)) % 4) t) fun v4 t3 =>
    some (v4, t3))))
    else (if a0 = 1 then (bdI (f_X3_codeOf N (4 * (a1 % 2)) (4 * (a1 / 2)) (1 + (2 * (a1 % 2))) t) fun v6 t5 =>
    some (v6, t5))
    else (if a0 = 2 then (bdI (f_X3_codeOf N (4 * (ixorZ (a1 % 2) ((a1 / 2) % 2))) (4 * (a1 / 2)) (2 * ((a1 / 2) % 2)) t) fun v8 t7 =>
    some (v8, t7))
    else (rnI (a1 / 2) (
    bdI (f_X3_codeOf N (4 * ((a1 / 2) % 2)) ((8 * ((a1 / 2) / 2)) + (4 * (ixorZ (ixorZ 1 (a1 % 2)) ((a1 / 2) % 2)))) (1 + (2 * ((a1 / 2) % 2))) t) fun v10 t9 =>
    some (v10, t9)))))))
set_option maxHeartbeats 4000000 in
set_option maxRecDepth 100000 in
theorem b_f_X3_startOf {p : Program} {l : Launch} {e : Env} {s : State} {m : MethodId} {args : Array Value} {below : List Frame} {meth : Method} {c : Code} {E : cE} {A : Nat → Prop} {r : Nat → Nat} {mc ms : Nat} {z : Int × St} {N : Nat} {a0 : Int} {a1 : Int} {t : St} (X : gX p s m meth c cX3_startOf 5 (some .int) yX3_startOf args E A) (h : f_X3_startOf N a0 a1 t = some z) : gP p l e rm_f_X3_startOf s m args below meth c E A 5 (MQ below ((gqI E (gW E r shH) z) A) args s mc ms A) (gW E r shH) 0 [(0, iv a0), (1, iv a1)] [] t := by
  unfold f_X3_startOf at h
  refine g_iload_n X dX3_startOf_0 1 rfl ?_
  refine g_iconst X dX3_startOf_1 ?_
  refine g_shr X 1 (by decide) (M := 2) (by decide) (by decide) dX3_startOf_2 h (fun h => ?_)
  refine g_istore_n (lv' := [(2, iv (a1 / 2)), (0, iv a0), (1, iv a1)]) X dX3_startOf_3 rfl (by decide) rfl ?_
  refine g_iload_n X dX3_startOf_4 2 rfl ?_
  refine g_iconst X dX3_startOf_5 ?_
  refine g_mask X 1 (by decide) (M := 2) (by decide) (by decide) dX3_startOf_6 ?_
  refine g_istore_n (lv' := [(3, iv (a1 % 2)), (2, iv (a1 / 2)), (0, iv a0), (1, iv a1)]) X dX3_startOf_7 rfl (by decide) rfl ?_
  refine g_iload_n X dX3_startOf_8 1 rfl ?_
  refine g_iconst X dX3_startOf_9 ?_
  refine g_mask X 1 (by decide) (M := 2) (by decide) (by decide) dX3_startOf_10 ?_
  refine g_istore (lv' := [(4, iv ((a1 / 2) % 2)), (3, iv (a1 % 2)), (2, iv (a1 / 2)), (0, iv a0), (1, iv a1)]) X dX3_startOf_11 (by decide) rfl ?_
  refine g_iload_n X dX3_startOf_13 3 rfl ?_
  obtain ⟨hr9, h⟩ := rnI_some h
  by_cases e9_0 : a0 = 0
  · rw [if_pos e9_0] at h
    refine g_tableIn X (tgt := 40) (off := 26) dX3_startOf_14 (k := 0) hr9 e9_0 (by decide) (by decide) rfl (by decide) ?_
    refine g_getX X rfl wdF_RX3_38 dX3_startOf_40 ?_
    refine g_iload_n X dX3_startOf_43 4 rfl ?_
    refine g_bipush X dX3_startOf_44 (by decide) ?_
    refine g_mask X 3 (by decide) (M := 8) (by decide) (by decide) dX3_startOf_46 ?_
    refine g_aldX X dX3_startOf_47 h (fun v1 h => ?_)
    refine g_getY X rfl wdF_RX3_41 dX3_startOf_48 ?_
    refine g_iload_n X dX3_startOf_51 4 rfl ?_
    refine g_bipush X dX3_startOf_52 (by decide) ?_
    refine g_mask X 3 (by decide) (M := 8) (by decide) (by decide) dX3_startOf_54 ?_
    refine g_aldY X dX3_startOf_55 h (fun v2 h => ?_)
    refine g_iload_n X dX3_startOf_56 2 rfl ?_
    refine g_ineg X dX3_startOf_57 ?_
    refine g_iconst X dX3_startOf_58 ?_
    refine g_mask X 2 (by decide) (M := 4) (by decide) (by decide) dX3_startOf_59 ?_
    refine g_callsI (rest := []) X (fun u9 h9 => cp_X3_codeOf l E r N v1 v2 ((-(a1 / 2)) % 4) t u9 h9) yy_X3_codeOf wdT_X3_codeOf wdM_RX3_44 rfl rfl (Nat.le_of_ble_eq_true rfl) dX3_startOf_60 ⟨by decide, by decide⟩ ⟨rfl, rfl⟩ h (fun v4 t3 h => ?_)
    exact g_iret X h dX3_startOf_63
  · rw [if_neg e9_0] at h
    by_cases e9_1 : a0 = 1
    · rw [if_pos e9_1] at h
      refine g_tableIn X (tgt := 64) (off := 50) dX3_startOf_14 (k := 1) hr9 e9_1 (by decide) (by decide) rfl (by decide) ?_
      refine g_iconst X dX3_startOf_64 ?_
      refine g_iload_n X dX3_startOf_65 1 rfl ?_
      refine g_imul X dX3_startOf_66 ?_
      refine g_iconst X dX3_startOf_67 ?_
      refine g_iload_n X dX3_startOf_68 2 rfl ?_
      refine g_imul X dX3_startOf_69 ?_
      refine g_iconst X dX3_startOf_70 ?_
      refine g_iconst X dX3_startOf_71 ?_
      refine g_iload_n X dX3_startOf_72 1 rfl ?_
      refine g_imul X dX3_startOf_73 ?_
      refine g_iadd X dX3_startOf_74 ?_
      refine g_callsI (rest := []) X (fun u9 h9 => cp_X3_codeOf l E r N (4 * (a1 % 2)) (4 * (a1 / 2)) (1 + (2 * (a1 % 2))) t u9 h9) yy_X3_codeOf wdT_X3_codeOf wdM_RX3_44 rfl rfl (Nat.le_of_ble_eq_true rfl) dX3_startOf_75 ⟨by decide, by decide⟩ ⟨rfl, rfl⟩ h (fun v6 t5 h => ?_)
      exact g_iret X h dX3_startOf_78
    · rw [if_neg e9_1] at h
      by_cases e9_2 : a0 = 2
      · rw [if_pos e9_2] at h
        refine g_tableIn X (tgt := 79) (off := 65) dX3_startOf_14 (k := 2) hr9 e9_2 (by decide) (by decide) rfl (by decide) ?_
        refine g_iconst X dX3_startOf_79 ?_
        refine g_iload_n X dX3_startOf_80 1 rfl ?_
        refine g_iload X dX3_startOf_81 0 rfl ?_
        refine g_ixor X dX3_startOf_83 ?_
        refine g_imul X dX3_startOf_84 ?_
        refine g_iconst X dX3_startOf_85 ?_
        refine g_iload_n X dX3_startOf_86 2 rfl ?_
        refine g_imul X dX3_startOf_87 ?_
        refine g_iconst X dX3_startOf_88 ?_
        refine g_iload X dX3_startOf_89 0 rfl ?_
        refine g_imul X dX3_startOf_91 ?_
        refine g_callsI (rest := []) X (fun u9 h9 => cp_X3_codeOf l E r N (4 * (ixorZ (a1 % 2) ((a1 / 2) % 2))) (4 * (a1 / 2)) (2 * ((a1 / 2) % 2)) t u9 h9) yy_X3_codeOf wdT_X3_codeOf wdM_RX3_44 rfl rfl (Nat.le_of_ble_eq_true rfl) dX3_startOf_92 ⟨by decide, by decide⟩ ⟨rfl, rfl⟩ h (fun v8 t7 h => ?_)
        exact g_iret X h dX3_startOf_95
      · rw [if_neg e9_2] at h
        refine g_tableOut X (tgt := 96) dX3_startOf_14 hr9 (by omega) (by decide) ?_
        refine g_iconst X dX3_startOf_96 ?_
        refine g_iload X dX3_startOf_97 0 rfl ?_
        refine g_imul X dX3_startOf_99 ?_
        refine g_bipush X dX3_startOf_100 (by decide) ?_
        refine g_iload_n X dX3_startOf_102 2 rfl ?_
        refine g_iconst X dX3_startOf_103 ?_
        refine g_shr X 1 (by decide) (M := 2) (by decide) (by decide) dX3_startOf_104 h (fun h => ?_)
        refine g_imul X dX3_startOf_105 ?_
        refine g_iconst X dX3_startOf_106 ?_
        refine g_iconst X dX3_startOf_107 ?_
        refine g_iload_n X dX3_startOf_108 1 rfl ?_
        refine g_ixor X dX3_startOf_109 ?_
        refine g_iload X dX3_startOf_110 0 rfl ?_
        refine g_ixor X dX3_startOf_112 ?_
        refine g_imul X dX3_startOf_113 ?_
        refine g_iadd X dX3_startOf_114 ?_
        refine g_iconst X dX3_startOf_115 ?_
        refine g_iconst X dX3_startOf_116 ?_
        refine g_iload X dX3_startOf_117 0 rfl ?_
        refine g_imul X dX3_startOf_119 ?_
        refine g_iadd X dX3_startOf_120 ?_
        refine g_callsI (rest := []) X (fun u9 h9 => cp_X3_codeOf l E r N (4 * ((a1 / 2) % 2)) ((8 * ((a1 / 2) / 2)) + (4 * (ixorZ (ixorZ 1 (a1 % 2)) ((a1 / 2) % 2)))) (1 + (2 * ((a1 / 2) % 2))) t u9 h9) yy_X3_codeOf wdT_X3_codeOf wdM_RX3_44 rfl rfl (Nat.le_of_ble_eq_true rfl) dX3_startOf_121 ⟨by decide, by decide⟩ ⟨rfl, rfl⟩ h (fun v10 t9 h => ?_)
        exact g_iret X h dX3_startOf_124
set_option maxHeartbeats 4000000 in
set_option maxRecDepth 100000 in
theorem cp_X3_startOf (l : Launch) (E : cE) (r : Nat → Nat) (N : Nat) (a0 : Int) (a1 : Int) (t : St) (z : Int × St) (h : f_X3_startOf N a0 a1 t = some z) : cM l E yX3_startOf cX3_startOf 5 (some .int) rm_f_X3_startOf [iv a0, iv a1] (gW E r shH t) (gqI E (gW E r shH) z) := by
  refine g_of (w := gW E r shH) (by decide) (Nat.le_of_ble_eq_true rfl) ?_
  intro p e s m below meth c A X
  exact g_sub (lv' := [(0, iv a0), (1, iv a1)]) [0, 1] rfl (b_f_X3_startOf X h)
abbrev rm_f_X3_lay : Room := { frames := 4, cells := 0, slots := 0, locals := 90 }
def f_X3_lay_L12 (N : Nat) (o0 : Nat) (K5 : (St → Option (St))) (y1 : Int) (y2 : Int) : Nat → Int → St → Option (St)
  | 0, _, _ => none
  | n9 + 1, x3, t4 =>
    cmpI x3 y2 (if x3 < y2 then (bdI (f_X3_startOf N y1 x3 t4) fun v7 t6 =>
    ixI x3 64 (lt1 (pI t6 (394 + 10 * o0) x3.toNat v7) fun t8 =>
    ixI x3 64 (lt1 (pI t8 (393 + 10 * o0) x3.toNat 0) fun t9 =>
    f_X3_lay_L12 N o0 K5 y1 y2 n9 (x3 + 1) t9)))
    else (K5 t4))
def f_X3_lay (N : Nat) (o0 : Nat) (a0 : Int) (a1 : Int) (t : St) : Option (St) :=
    cmpI (2 * a1) 64 (
    f_X3_lay_L12 N o0 (fun (t10 : St) => bdV (f_X3_place N o0 (394 + 10 * o0) 64 (min (2 * a1) 64) t10) fun t11 =>
    some t11) a0 (min (2 * a1) 64) N 0 t)
set_option maxHeartbeats 4000000 in
set_option maxRecDepth 100000 in
theorem t_f_X3_lay_L12 {p : Program} {l : Launch} {e : Env} {s : State} {m : MethodId} {args : Array Value} {below : List Frame} {meth : Method} {c : Code} {E : cE} {A : Nat → Prop} {r : Nat → Nat} {mc ms : Nat} {z : St} {o0 : Nat} (ho0 : o0 < 2) {N : Nat} {K5 : (St → Option (St))} {y1 : Int} {y2 : Int} (X : gX p s m meth c cX3_lay 5 none yX3_lay args E A) (hK5 : ∀ (t9 : St), K5 t9 = some z → gP p l e rm_f_X3_lay s m args below meth c E A 5 (MQ below ((gqV E (gW E r shH) z) A) args s mc ms A) (gW E r shH) 45 [(0, .ref (r (305 + o0))), (3, iv y2)] [] t9) : ∀ (n9 : Nat) (x3 : Int) (t4 : St), f_X3_lay_L12 N o0 K5 y1 y2 n9 x3 t4 = some z → gP p l e rm_f_X3_lay s m args below meth c E A 5 (MQ below ((gqV E (gW E r shH) z) A) args s mc ms A) (gW E r shH) 12 [(0, .ref (r (305 + o0))), (1, iv y1), (3, iv y2), (4, iv x3)] [] t4 := by
  intro n9
  induction n9 with
  | zero => intro x3 t4 h; cases h
  | succ n9 ih =>
    intro x3 t4 h
    unfold f_X3_lay_L12 at h
    refine g_iload X dX3_lay_12 3 rfl ?_
    refine g_iload_n X dX3_lay_14 2 rfl ?_
    refine g_icmp_ge (tgt := 45) X dX3_lay_15 (by decide) h (fun h => ?_) (fun h => ?_)
    · exact g_sub (lv' := [(0, .ref (r (305 + o0))), (3, iv y2)]) [0, 2] rfl (hK5 t4 h)
    · refine g_aload_n X dX3_lay_18 0 rfl ?_
      refine g_getR X (fH_X3_24_o (o := o0) ho0) rfl dX3_lay_19 ?_
      refine g_iload X dX3_lay_22 3 rfl ?_
      refine g_iload_n X dX3_lay_24 1 rfl ?_
      refine g_iload X dX3_lay_25 3 rfl ?_
      refine g_callsI (rest := [iv x3, .ref (r (394 + 10 * o0))]) X (fun u9 h9 => cp_X3_startOf l E r N y1 x3 t4 u9 h9) yy_X3_startOf wdT_X3_startOf wdM_RX3_54 rfl rfl (Nat.le_of_ble_eq_true rfl) dX3_lay_27 ⟨by decide, by decide⟩ ⟨rfl, rfl⟩ h (fun v7 t6 h => ?_)
      refine g_iast X (aF_4 (o := o0) ho0) dX3_lay_30 h (fun t8 h => ?_)
      refine g_aload_n X dX3_lay_31 0 rfl ?_
      refine g_getR X (fH_X3_21_o (o := o0) ho0) rfl dX3_lay_32 ?_
      refine g_iload X dX3_lay_35 3 rfl ?_
      refine g_iconst X dX3_lay_37 ?_
      refine g_iast X (aF_3 (o := o0) ho0) dX3_lay_38 h (fun t9 h => ?_)
      refine g_iinc (lv' := [(4, iv (x3 + 1)), (0, .ref (r (305 + o0))), (1, iv y1), (3, iv y2)]) X dX3_lay_39 (k := 3) rfl (by decide) rfl ?_
      refine g_goto (tgt := 12) X dX3_lay_42 (by decide) ?_
      exact g_sub (lv' := [(0, .ref (r (305 + o0))), (1, iv y1), (3, iv y2), (4, iv (x3 + 1))]) [1, 2, 3, 0] rfl (ih (x3 + 1) t9 h)
set_option maxHeartbeats 4000000 in
set_option maxRecDepth 100000 in
theorem b_f_X3_lay {p : Program} {l : Launch} {e : Env} {s : State} {m : MethodId} {args : Array Value} {below : List Frame} {meth : Method} {c : Code} {E : cE} {A : Nat → Prop} {r : Nat → Nat} {mc ms : Nat} {z : St} {N : Nat} {o0 : Nat} (ho0 : o0 < 2) {a0 : Int} {a1 : Int} {t : St} (X : gX p s m meth c cX3_lay 5 none yX3_lay args E A) (h : f_X3_lay N o0 a0 a1 t = some z) : gP p l e rm_f_X3_lay s m args below meth c E A 5 (MQ below ((gqV E (gW E r shH) z) A) args s mc ms A) (gW E r shH) 0 [(0, .ref (r (305 + o0))), (1, iv a0), (2, iv a1)] [] t := by
  unfold f_X3_lay at h
  refine g_iconst X dX3_lay_0 ?_
  refine g_iload_n X dX3_lay_1 2 rfl ?_
  refine g_imul X dX3_lay_2 ?_
  refine g_bipush X dX3_lay_3 (by decide) ?_
  refine g_mmin X wdM_RX3_48 (by decide) (Nat.le_of_ble_eq_true rfl) dX3_lay_5 h (fun h => ?_)
  refine g_istore_n (lv' := [(3, iv (min (2 * a1) 64)), (0, .ref (r (305 + o0))), (1, iv a0), (2, iv a1)]) X dX3_lay_8 rfl (by decide) rfl ?_
  refine g_iconst X dX3_lay_9 ?_
  refine g_istore (lv' := [(4, iv 0), (3, iv (min (2 * a1) 64)), (0, .ref (r (305 + o0))), (1, iv a0), (2, iv a1)]) X dX3_lay_10 (by decide) rfl ?_
  refine g_sub (lv' := [(0, .ref (r (305 + o0))), (1, iv a0), (3, iv (min (2 * a1) 64)), (4, iv 0)]) [2, 3, 1, 0] rfl (t_f_X3_lay_L12 ho0 X (fun t10 h => ?_) N 0 t h)
  · refine g_aload_n X dX3_lay_45 0 rfl ?_
    refine g_aload_n X dX3_lay_46 0 rfl ?_
    refine g_getR X (fH_X3_24_o (o := o0) ho0) rfl dX3_lay_47 ?_
    refine g_iload_n X dX3_lay_50 1 rfl ?_
    refine g_callOV (rest := []) X (fun u9 h9 => cp_X3_place l E r N o0 ho0 (394 + 10 * o0) 64 (aF_4 (o := o0) ho0) (min (2 * a1) 64) t10 u9 h9) yy_X3_place yi_X3_place wdM_RX3_57 (oX3 (o := o0) ho0) rfl rfl rfl (Nat.le_of_ble_eq_true rfl) dX3_lay_51 ⟨by decide, by decide⟩ ⟨rfl, rfl⟩ h (fun t11 h => ?_)
    exact g_vret X h dX3_lay_54
set_option maxHeartbeats 4000000 in
set_option maxRecDepth 100000 in
theorem cp_X3_lay (l : Launch) (E : cE) (r : Nat → Nat) (N : Nat) (o0 : Nat) (ho0 : o0 < 2) (a0 : Int) (a1 : Int) (t : St) (z : St) (h : f_X3_lay N o0 a0 a1 t = some z) : cM l E yX3_lay cX3_lay 5 none rm_f_X3_lay [.ref (r (305 + o0)), iv a0, iv a1] (gW E r shH t) (gqV E (gW E r shH) z) := by
  refine g_of (w := gW E r shH) (by decide) (Nat.le_of_ble_eq_true rfl) ?_
  intro p e s m below meth c A X
  exact g_sub (lv' := [(0, .ref (r (305 + o0))), (1, iv a0), (2, iv a1)]) [0, 1, 2] rfl (b_f_X3_lay ho0 X h)
abbrev rm_f_X3_copyCodes : Room := { frames := 2, cells := 0, slots := 0, locals := 43 }
def f_X3_copyCodes_L2 (N : Nat) (o0 : Nat) (q0 : Nat) (n0 : Nat) (K3 : (St → Option (St))) : Nat → Int → St → Option (St)
  | 0, _, _ => none
  | n9 + 1, x1, t2 =>
    lt1 (t2.1 (305 + o0) 8) fun v4 =>
    cmpI x1 v4 (if x1 < v4 then (cmpI x1 ((n0 : Nat) : Int) (if x1 < ((n0 : Nat) : Int) then (bdI (f_X3_codeAt N o0 x1 t2) fun v6 t5 =>
    ixI x1 n0 (lt1 (pI t5 q0 x1.toNat v6) fun t7 =>
    f_X3_copyCodes_L2 N o0 q0 n0 K3 n9 (x1 + 1) t7))
    else (K3 t2)))
    else (K3 t2))
def f_X3_copyCodes (N : Nat) (o0 : Nat) (q0 : Nat) (n0 : Nat) (t : St) : Option (St) :=
    f_X3_copyCodes_L2 N o0 q0 n0 (fun (t8 : St) => some t8) N 0 t
set_option maxHeartbeats 4000000 in
set_option maxRecDepth 100000 in
theorem t_f_X3_copyCodes_L2 {p : Program} {l : Launch} {e : Env} {s : State} {m : MethodId} {args : Array Value} {below : List Frame} {meth : Method} {c : Code} {E : cE} {A : Nat → Prop} {r : Nat → Nat} {mc ms : Nat} {z : St} {o0 : Nat} (ho0 : o0 < 2) {q0 n0 : Nat} (hq0 : gA shH q0 1 n0) {N : Nat} {K3 : (St → Option (St))} (X : gX p s m meth c cX3_copyCodes 3 none yX3_copyCodes args E A) (hK3 : ∀ (t9 : St), K3 t9 = some z → gP p l e rm_f_X3_copyCodes s m args below meth c E A 3 (MQ below ((gqV E (gW E r shH) z) A) args s mc ms A) (gW E r shH) 30 [] [] t9) : ∀ (n9 : Nat) (x1 : Int) (t2 : St), f_X3_copyCodes_L2 N o0 q0 n0 K3 n9 x1 t2 = some z → gP p l e rm_f_X3_copyCodes s m args below meth c E A 3 (MQ below ((gqV E (gW E r shH) z) A) args s mc ms A) (gW E r shH) 2 [(0, .ref (r (305 + o0))), (1, .ref (r q0)), (2, iv x1)] [] t2 := by
  intro n9
  induction n9 with
  | zero => intro x1 t2 h; cases h
  | succ n9 ih =>
    intro x1 t2 h
    unfold f_X3_copyCodes_L2 at h
    refine g_iload_n X dX3_copyCodes_2 2 rfl ?_
    refine g_aload_n X dX3_copyCodes_3 0 rfl ?_
    refine g_getI X (fH_X3_61_o (o := o0) ho0) rfl dX3_copyCodes_4 h (fun v4 h => ?_)
    refine g_icmp_ge (tgt := 30) X dX3_copyCodes_7 (by decide) h (fun h => ?_) (fun h => ?_)
    · exact g_sub (lv' := []) [] rfl (hK3 t2 h)
    · refine g_iload_n X dX3_copyCodes_10 2 rfl ?_
      refine g_aload_n X dX3_copyCodes_11 1 rfl ?_
      refine g_alen1 X hq0 dX3_copyCodes_12 ?_
      refine g_icmp_ge (tgt := 30) X dX3_copyCodes_13 (by decide) h (fun h => ?_) (fun h => ?_)
      · exact g_sub (lv' := []) [] rfl (hK3 t2 h)
      · refine g_aload_n X dX3_copyCodes_16 1 rfl ?_
        refine g_iload_n X dX3_copyCodes_17 2 rfl ?_
        refine g_aload_n X dX3_copyCodes_18 0 rfl ?_
        refine g_iload_n X dX3_copyCodes_19 2 rfl ?_
        refine g_callOI (rest := [iv x1, .ref (r q0)]) X (fun u9 h9 => cp_X3_codeAt l E r N o0 ho0 x1 t2 u9 h9) yy_X3_codeAt yi_X3_codeAt wdM_RX3_65 (oX3 (o := o0) ho0) rfl rfl rfl (Nat.le_of_ble_eq_true rfl) dX3_copyCodes_20 ⟨by decide, by decide⟩ ⟨rfl, rfl⟩ h (fun v6 t5 h => ?_)
        refine g_iast X hq0 dX3_copyCodes_23 h (fun t7 h => ?_)
        refine g_iinc (lv' := [(2, iv (x1 + 1)), (0, .ref (r (305 + o0))), (1, .ref (r q0))]) X dX3_copyCodes_24 (k := 2) rfl (by decide) rfl ?_
        refine g_goto (tgt := 2) X dX3_copyCodes_27 (by decide) ?_
        exact g_sub (lv' := [(0, .ref (r (305 + o0))), (1, .ref (r q0)), (2, iv (x1 + 1))]) [1, 2, 0] rfl (ih (x1 + 1) t7 h)
set_option maxHeartbeats 4000000 in
set_option maxRecDepth 100000 in
theorem b_f_X3_copyCodes {p : Program} {l : Launch} {e : Env} {s : State} {m : MethodId} {args : Array Value} {below : List Frame} {meth : Method} {c : Code} {E : cE} {A : Nat → Prop} {r : Nat → Nat} {mc ms : Nat} {z : St} {N : Nat} {o0 : Nat} (ho0 : o0 < 2) {q0 n0 : Nat} (hq0 : gA shH q0 1 n0) {t : St} (X : gX p s m meth c cX3_copyCodes 3 none yX3_copyCodes args E A) (h : f_X3_copyCodes N o0 q0 n0 t = some z) : gP p l e rm_f_X3_copyCodes s m args below meth c E A 3 (MQ below ((gqV E (gW E r shH) z) A) args s mc ms A) (gW E r shH) 0 [(0, .ref (r (305 + o0))), (1, .ref (r q0))] [] t := by
  unfold f_X3_copyCodes at h
  refine g_iconst X dX3_copyCodes_0 ?_
  refine g_istore_n (lv' := [(2, iv 0), (0, .ref (r (305 + o0))), (1, .ref (r q0))]) X dX3_copyCodes_1 rfl (by decide) rfl ?_
  refine g_sub (lv' := [(0, .ref (r (305 + o0))), (1, .ref (r q0)), (2, iv 0)]) [1, 2, 0] rfl (t_f_X3_copyCodes_L2 ho0 hq0 X (fun t8 h => ?_) N 0 t h)
  · exact g_vret X h dX3_copyCodes_30
set_option maxHeartbeats 4000000 in
set_option maxRecDepth 100000 in
theorem cp_X3_copyCodes (l : Launch) (E : cE) (r : Nat → Nat) (N : Nat) (o0 : Nat) (ho0 : o0 < 2) (q0 n0 : Nat) (hq0 : gA shH q0 1 n0) (t : St) (z : St) (h : f_X3_copyCodes N o0 q0 n0 t = some z) : cM l E yX3_copyCodes cX3_copyCodes 3 none rm_f_X3_copyCodes [.ref (r (305 + o0)), .ref (r q0)] (gW E r shH t) (gqV E (gW E r shH) z) := by
  refine g_of (w := gW E r shH) (by decide) (Nat.le_of_ble_eq_true rfl) ?_
  intro p e s m below meth c A X
  exact g_sub (lv' := [(0, .ref (r (305 + o0))), (1, .ref (r q0))]) [0, 1] rfl (b_f_X3_copyCodes ho0 hq0 X h)
theorem dX3_everybody_0 : decode cX3_everybody 0 = .ok (.aload_n 0, 1) := by decide +kernel
theorem dX3_everybody_1 : decode cX3_everybody 1 = .ok (.getfield 61, 3) := by decide +kernel
theorem dX3_everybody_4 : decode cX3_everybody 4 = .ok (.bipush 64, 2) := by decide +kernel
theorem dX3_everybody_6 : decode cX3_everybody 6 = .ok (.if_icmp .lt 9, 3) := by decide +kernel
theorem dX3_everybody_9 : decode cX3_everybody 9 = .ok (.ldc2_w 81, 3) := by decide +kernel
theorem dX3_everybody_12 : decode cX3_everybody 12 = .ok (.goto 11, 3) := by decide +kernel
theorem dX3_everybody_15 : decode cX3_everybody 15 = .ok (.lconst 1, 1) := by decide +kernel
theorem dX3_everybody_16 : decode cX3_everybody 16 = .ok (.aload_n 0, 1) := by decide +kernel
theorem dX3_everybody_17 : decode cX3_everybody 17 = .ok (.getfield 61, 3) := by decide +kernel
theorem dX3_everybody_20 : decode cX3_everybody 20 = .ok (.lshl, 1) := by decide +kernel
theorem dX3_everybody_21 : decode cX3_everybody 21 = .ok (.lconst 1, 1) := by decide +kernel
theorem dX3_everybody_22 : decode cX3_everybody 22 = .ok (.lsub, 1) := by decide +kernel
theorem dX3_everybody_23 : decode cX3_everybody 23 = .ok (.lreturn, 1) := by decide +kernel
abbrev rm_f_X3_everybody : Room := { frames := 0, cells := 0, slots := 0, locals := 0 }
def f_X3_everybody (N : Nat) (o0 : Nat) (t : St) : Option (Int64 × St) :=
    lt1 (t.1 (305 + o0) 8) fun v1 =>
    cmpI v1 64 (if v1 < 64 then (lt1 (t.1 (305 + o0) 8) fun v2 =>
    some ((shlL (1 : Int64) v2) - (1 : Int64), t))
    else (some ((-1 : Int64), t)))
set_option maxHeartbeats 4000000 in
set_option maxRecDepth 100000 in
theorem b_f_X3_everybody {p : Program} {l : Launch} {e : Env} {s : State} {m : MethodId} {args : Array Value} {below : List Frame} {meth : Method} {c : Code} {E : cE} {A : Nat → Prop} {r : Nat → Nat} {mc ms : Nat} {z : Int64 × St} {N : Nat} {o0 : Nat} (ho0 : o0 < 2) {t : St} (X : gX p s m meth c cX3_everybody 1 (some .long) yX3_everybody args E A) (h : f_X3_everybody N o0 t = some z) : gP p l e rm_f_X3_everybody s m args below meth c E A 1 (MQ below ((gqL E (gW E r shH) z) A) args s mc ms A) (gW E r shH) 0 [(0, .ref (r (305 + o0)))] [] t := by
  unfold f_X3_everybody at h
  refine g_aload_n X dX3_everybody_0 0 rfl ?_
  refine g_getI X (fH_X3_61_o (o := o0) ho0) rfl dX3_everybody_1 h (fun v1 h => ?_)
  refine g_bipush X dX3_everybody_4 (by decide) ?_
  refine g_icmp_lt (tgt := 15) X dX3_everybody_6 (by decide) h (fun h => ?_) (fun h => ?_)
  · refine g_lconst (v := 1) X dX3_everybody_15 (by decide) ?_
    refine g_aload_n X dX3_everybody_16 0 rfl ?_
    refine g_getI X (fH_X3_61_o (o := o0) ho0) rfl dX3_everybody_17 h (fun v2 h => ?_)
    refine g_lshl X dX3_everybody_20 ?_
    refine g_lconst (v := 1) X dX3_everybody_21 (by decide) ?_
    refine g_lsub X dX3_everybody_22 ?_
    exact g_lret X h dX3_everybody_23
  · refine g_ldc2 X rfl wdL_RX3_81 dX3_everybody_9 ?_
    refine g_goto (tgt := 23) X dX3_everybody_12 (by decide) ?_
    exact g_lret X h dX3_everybody_23
set_option maxHeartbeats 4000000 in
set_option maxRecDepth 100000 in
theorem cp_X3_everybody (l : Launch) (E : cE) (r : Nat → Nat) (N : Nat) (o0 : Nat) (ho0 : o0 < 2) (t : St) (z : Int64 × St) (h : f_X3_everybody N o0 t = some z) : cM l E yX3_everybody cX3_everybody 1 (some .long) rm_f_X3_everybody [.ref (r (305 + o0))] (gW E r shH t) (gqL E (gW E r shH) z) := by
  refine g_of (w := gW E r shH) (by decide) (Nat.le_of_ble_eq_true rfl) ?_
  intro p e s m below meth c A X
  exact g_sub (lv' := [(0, .ref (r (305 + o0)))]) [0] rfl (b_f_X3_everybody ho0 X h)
theorem yy_X3_everybody : cY yX3_everybody cX3_everybody 1 (some .long) 0 := ⟨wdK_X3_everybody, wdZ_RX3, by decide +kernel⟩
theorem yi_X3_everybody : cYi yX3_everybody := ⟨wdN_X3_everybody, wdS_X3_everybody⟩
theorem dX4_clear_0 : decode cX4_clear 0 = .ok (.aload_n 0, 1) := by decide +kernel
theorem dX4_clear_1 : decode cX4_clear 1 = .ok (.iconst 0, 1) := by decide +kernel
theorem dX4_clear_2 : decode cX4_clear 2 = .ok (.putfield 15, 3) := by decide +kernel
theorem dX4_clear_5 : decode cX4_clear 5 = .ok (.return_, 1) := by decide +kernel
abbrev rm_f_X4_clear : Room := { frames := 0, cells := 0, slots := 0, locals := 0 }
def f_X4_clear (N : Nat) (t : St) : Option (St) :=
    lt1 (pI t 309 2 0) fun t1 =>
    some t1
set_option maxHeartbeats 4000000 in
set_option maxRecDepth 100000 in
theorem b_f_X4_clear {p : Program} {l : Launch} {e : Env} {s : State} {m : MethodId} {args : Array Value} {below : List Frame} {meth : Method} {c : Code} {E : cE} {A : Nat → Prop} {r : Nat → Nat} {mc ms : Nat} {z : St} {N : Nat} {t : St} (X : gX p s m meth c cX4_clear 1 none yX4_clear args E A) (h : f_X4_clear N t = some z) : gP p l e rm_f_X4_clear s m args below meth c E A 1 (MQ below ((gqV E (gW E r shH) z) A) args s mc ms A) (gW E r shH) 0 [(0, .ref (r 309))] [] t := by
  unfold f_X4_clear at h
  refine g_aload_n X dX4_clear_0 0 rfl ?_
  refine g_iconst X dX4_clear_1 ?_
  refine g_putI X fH_X4_15_309w rfl dX4_clear_2 h (fun t1 h => ?_)
  exact g_vret X h dX4_clear_5
set_option maxHeartbeats 4000000 in
set_option maxRecDepth 100000 in
theorem cp_X4_clear (l : Launch) (E : cE) (r : Nat → Nat) (N : Nat) (t : St) (z : St) (h : f_X4_clear N t = some z) : cM l E yX4_clear cX4_clear 1 none rm_f_X4_clear [.ref (r 309)] (gW E r shH t) (gqV E (gW E r shH) z) := by
  refine g_of (w := gW E r shH) (by decide) (Nat.le_of_ble_eq_true rfl) ?_
  intro p e s m below meth c A X
  exact g_sub (lv' := [(0, .ref (r 309))]) [0] rfl (b_f_X4_clear X h)
theorem yy_X4_clear : cY yX4_clear cX4_clear 1 none 0 := ⟨wdK_X4_clear, wdZ_RX4, by decide +kernel⟩
theorem yi_X4_clear : cYi yX4_clear := ⟨wdN_X4_clear, wdS_X4_clear⟩
theorem dX4_keep_0 : decode cX4_keep 0 = .ok (.aload_n 0, 1) := by decide +kernel
theorem dX4_keep_1 : decode cX4_keep 1 = .ok (.aload_n 0, 1) := by decide +kernel
theorem dX4_keep_2 : decode cX4_keep 2 = .ok (.getfield 19, 3) := by decide +kernel
theorem dX4_keep_5 : decode cX4_keep 5 = .ok (.iconst 1, 1) := by decide +kernel
theorem dX4_keep_6 : decode cX4_keep 6 = .ok (.iadd, 1) := by decide +kernel
theorem dX4_keep_7 : decode cX4_keep 7 = .ok (.sipush 201, 3) := by decide +kernel
theorem dX4_keep_10 : decode cX4_keep 10 = .ok (.irem, 1) := by decide +kernel
theorem dX4_keep_11 : decode cX4_keep 11 = .ok (.putfield 19, 3) := by decide +kernel
theorem dX4_keep_14 : decode cX4_keep 14 = .ok (.aload_n 0, 1) := by decide +kernel
theorem dX4_keep_15 : decode cX4_keep 15 = .ok (.aload_n 0, 1) := by decide +kernel
theorem dX4_keep_16 : decode cX4_keep 16 = .ok (.getfield 15, 3) := by decide +kernel
theorem dX4_keep_19 : decode cX4_keep 19 = .ok (.iconst 1, 1) := by decide +kernel
theorem dX4_keep_20 : decode cX4_keep 20 = .ok (.iadd, 1) := by decide +kernel
theorem dX4_keep_21 : decode cX4_keep 21 = .ok (.sipush 200, 3) := by decide +kernel
theorem dX4_keep_24 : decode cX4_keep 24 = .ok (.invokestatic 33, 3) := by decide +kernel
theorem dX4_keep_27 : decode cX4_keep 27 = .ok (.putfield 15, 3) := by decide +kernel
theorem dX4_keep_30 : decode cX4_keep 30 = .ok (.return_, 1) := by decide +kernel
abbrev rm_f_X4_keep : Room := { frames := 1, cells := 0, slots := 0, locals := 21 }
def f_X4_keep (N : Nat) (t : St) : Option (St) :=
    lt1 (t.1 309 1) fun v1 =>
    dvI (v1 + 1) 201 (
    lt1 (pI t 309 1 ((v1 + 1) % 201)) fun t2 =>
    lt1 (t2.1 309 2) fun v3 =>
    cmpI (v3 + 1) 200 (
    lt1 (pI t2 309 2 (min (v3 + 1) 200)) fun t4 =>
    some t4))
set_option maxHeartbeats 4000000 in
set_option maxRecDepth 100000 in
theorem b_f_X4_keep {p : Program} {l : Launch} {e : Env} {s : State} {m : MethodId} {args : Array Value} {below : List Frame} {meth : Method} {c : Code} {E : cE} {A : Nat → Prop} {r : Nat → Nat} {mc ms : Nat} {z : St} {N : Nat} {t : St} (X : gX p s m meth c cX4_keep 1 none yX4_keep args E A) (h : f_X4_keep N t = some z) : gP p l e rm_f_X4_keep s m args below meth c E A 1 (MQ below ((gqV E (gW E r shH) z) A) args s mc ms A) (gW E r shH) 0 [(0, .ref (r 309))] [] t := by
  unfold f_X4_keep at h
  refine g_aload_n X dX4_keep_0 0 rfl ?_
  refine g_aload_n X dX4_keep_1 0 rfl ?_
  refine g_getI X fH_X4_19_309 rfl dX4_keep_2 h (fun v1 h => ?_)
  refine g_iconst X dX4_keep_5 ?_
  refine g_iadd X dX4_keep_6 ?_
  refine g_sipush X dX4_keep_7 (by decide) ?_
  refine g_irem X dX4_keep_10 h (fun h => ?_)
  refine g_putI X fH_X4_19_309w rfl dX4_keep_11 h (fun t2 h => ?_)
  refine g_aload_n X dX4_keep_14 0 rfl ?_
  refine g_aload_n X dX4_keep_15 0 rfl ?_
  refine g_getI X fH_X4_15_309 rfl dX4_keep_16 h (fun v3 h => ?_)
  refine g_iconst X dX4_keep_19 ?_
  refine g_iadd X dX4_keep_20 ?_
  refine g_sipush X dX4_keep_21 (by decide) ?_
  refine g_mmin X wdM_RX4_33 (by decide) (Nat.le_of_ble_eq_true rfl) dX4_keep_24 h (fun h => ?_)
  refine g_putI X fH_X4_15_309w rfl dX4_keep_27 h (fun t4 h => ?_)
  exact g_vret X h dX4_keep_30
set_option maxHeartbeats 4000000 in
set_option maxRecDepth 100000 in
theorem cp_X4_keep (l : Launch) (E : cE) (r : Nat → Nat) (N : Nat) (t : St) (z : St) (h : f_X4_keep N t = some z) : cM l E yX4_keep cX4_keep 1 none rm_f_X4_keep [.ref (r 309)] (gW E r shH t) (gqV E (gW E r shH) z) := by
  refine g_of (w := gW E r shH) (by decide) (Nat.le_of_ble_eq_true rfl) ?_
  intro p e s m below meth c A X
  exact g_sub (lv' := [(0, .ref (r 309))]) [0] rfl (b_f_X4_keep X h)
theorem yy_X4_keep : cY yX4_keep cX4_keep 1 none 0 := ⟨wdK_X4_keep, wdZ_RX4, by decide +kernel⟩
theorem yi_X4_keep : cYi yX4_keep := ⟨wdN_X4_keep, wdS_X4_keep⟩
theorem dX4_drop_0 : decode cX4_drop 0 = .ok (.iload_n 1, 1) := by decide +kernel
theorem dX4_drop_1 : decode cX4_drop 1 = .ok (.ifCond .lt 41, 3) := by decide +kernel
theorem dX4_drop_4 : decode cX4_drop 4 = .ok (.iload_n 1, 1) := by decide +kernel
theorem dX4_drop_5 : decode cX4_drop 5 = .ok (.aload_n 0, 1) := by decide +kernel
theorem dX4_drop_6 : decode cX4_drop 6 = .ok (.getfield 15, 3) := by decide +kernel
theorem dX4_drop_9 : decode cX4_drop 9 = .ok (.if_icmp .gt 33, 3) := by decide +kernel
theorem dX4_drop_12 : decode cX4_drop 12 = .ok (.aload_n 0, 1) := by decide +kernel
theorem dX4_drop_13 : decode cX4_drop 13 = .ok (.aload_n 0, 1) := by decide +kernel
theorem dX4_drop_14 : decode cX4_drop 14 = .ok (.getfield 19, 3) := by decide +kernel
theorem dX4_drop_17 : decode cX4_drop 17 = .ok (.iload_n 1, 1) := by decide +kernel
theorem dX4_drop_18 : decode cX4_drop 18 = .ok (.isub, 1) := by decide +kernel
theorem dX4_drop_19 : decode cX4_drop 19 = .ok (.sipush 200, 3) := by decide +kernel
theorem dX4_drop_22 : decode cX4_drop 22 = .ok (.iadd, 1) := by decide +kernel
theorem dX4_drop_23 : decode cX4_drop 23 = .ok (.iconst 1, 1) := by decide +kernel
theorem dX4_drop_24 : decode cX4_drop 24 = .ok (.iadd, 1) := by decide +kernel
theorem dX4_drop_25 : decode cX4_drop 25 = .ok (.sipush 201, 3) := by decide +kernel
theorem dX4_drop_28 : decode cX4_drop 28 = .ok (.irem, 1) := by decide +kernel
theorem dX4_drop_29 : decode cX4_drop 29 = .ok (.putfield 19, 3) := by decide +kernel
theorem dX4_drop_32 : decode cX4_drop 32 = .ok (.aload_n 0, 1) := by decide +kernel
theorem dX4_drop_33 : decode cX4_drop 33 = .ok (.dup, 1) := by decide +kernel
theorem dX4_drop_34 : decode cX4_drop 34 = .ok (.getfield 15, 3) := by decide +kernel
theorem dX4_drop_37 : decode cX4_drop 37 = .ok (.iload_n 1, 1) := by decide +kernel
theorem dX4_drop_38 : decode cX4_drop 38 = .ok (.isub, 1) := by decide +kernel
theorem dX4_drop_39 : decode cX4_drop 39 = .ok (.putfield 15, 3) := by decide +kernel
theorem dX4_drop_42 : decode cX4_drop 42 = .ok (.return_, 1) := by decide +kernel
abbrev rm_f_X4_drop : Room := { frames := 0, cells := 0, slots := 0, locals := 0 }
def f_X4_drop (N : Nat) (a0 : Int) (t : St) : Option (St) :=
    cmpI a0 0 (if a0 < 0 then (some t)
    else (lt1 (t.1 309 2) fun v1 =>
    cmpI a0 v1 (if v1 < a0 then (some t)
    else (lt1 (t.1 309 1) fun v2 =>
    dvI (((v2 - a0) + 200) + 1) 201 (
    lt1 (pI t 309 1 ((((v2 - a0) + 200) + 1) % 201)) fun t3 =>
    lt1 (t3.1 309 2) fun v4 =>
    lt1 (pI t3 309 2 (v4 - a0)) fun t5 =>
    some t5)))))
set_option maxHeartbeats 4000000 in
set_option maxRecDepth 100000 in
theorem b_f_X4_drop {p : Program} {l : Launch} {e : Env} {s : State} {m : MethodId} {args : Array Value} {below : List Frame} {meth : Method} {c : Code} {E : cE} {A : Nat → Prop} {r : Nat → Nat} {mc ms : Nat} {z : St} {N : Nat} {a0 : Int} {t : St} (X : gX p s m meth c cX4_drop 2 none yX4_drop args E A) (h : f_X4_drop N a0 t = some z) : gP p l e rm_f_X4_drop s m args below meth c E A 2 (MQ below ((gqV E (gW E r shH) z) A) args s mc ms A) (gW E r shH) 0 [(0, .ref (r 309)), (1, iv a0)] [] t := by
  unfold f_X4_drop at h
  refine g_iload_n X dX4_drop_0 1 rfl ?_
  refine g_if_lt (tgt := 42) X dX4_drop_1 (by decide) h (fun h => ?_) (fun h => ?_)
  · exact g_vret X h dX4_drop_42
  · refine g_iload_n X dX4_drop_4 1 rfl ?_
    refine g_aload_n X dX4_drop_5 0 rfl ?_
    refine g_getI X fH_X4_15_309 rfl dX4_drop_6 h (fun v1 h => ?_)
    refine g_icmp_gt (tgt := 42) X dX4_drop_9 (by decide) h (fun h => ?_) (fun h => ?_)
    · exact g_vret X h dX4_drop_42
    · refine g_aload_n X dX4_drop_12 0 rfl ?_
      refine g_aload_n X dX4_drop_13 0 rfl ?_
      refine g_getI X fH_X4_19_309 rfl dX4_drop_14 h (fun v2 h => ?_)
      refine g_iload_n X dX4_drop_17 1 rfl ?_
      refine g_isub X dX4_drop_18 ?_
      refine g_sipush X dX4_drop_19 (by decide) ?_
      refine g_iadd X dX4_drop_22 ?_
      refine g_iconst X dX4_drop_23 ?_
      refine g_iadd X dX4_drop_24 ?_
      refine g_sipush X dX4_drop_25 (by decide) ?_
      refine g_irem X dX4_drop_28 h (fun h => ?_)
      refine g_putI X fH_X4_19_309w rfl dX4_drop_29 h (fun t3 h => ?_)
      refine g_aload_n X dX4_drop_32 0 rfl ?_
      refine g_dup X rfl dX4_drop_33 ?_
      refine g_getI X fH_X4_15_309 rfl dX4_drop_34 h (fun v4 h => ?_)
      refine g_iload_n X dX4_drop_37 1 rfl ?_
      refine g_isub X dX4_drop_38 ?_
      refine g_putI X fH_X4_15_309w rfl dX4_drop_39 h (fun t5 h => ?_)
      exact g_vret X h dX4_drop_42
set_option maxHeartbeats 4000000 in
set_option maxRecDepth 100000 in
theorem cp_X4_drop (l : Launch) (E : cE) (r : Nat → Nat) (N : Nat) (a0 : Int) (t : St) (z : St) (h : f_X4_drop N a0 t = some z) : cM l E yX4_drop cX4_drop 2 none rm_f_X4_drop [.ref (r 309), iv a0] (gW E r shH t) (gqV E (gW E r shH) z) := by
  refine g_of (w := gW E r shH) (by decide) (Nat.le_of_ble_eq_true rfl) ?_
  intro p e s m below meth c A X
  exact g_sub (lv' := [(0, .ref (r 309)), (1, iv a0)]) [0, 1] rfl (b_f_X4_drop X h)
theorem yy_X4_drop : cY yX4_drop cX4_drop 2 none 1 := ⟨wdK_X4_drop, wdZ_RX4, by decide +kernel⟩
theorem yi_X4_drop : cYi yX4_drop := ⟨wdN_X4_drop, wdS_X4_drop⟩
