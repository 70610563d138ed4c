theorem dX9_explore_0 : decode cX9_explore 0 = .ok (.aload_n 0, 1) := by decide +kernel
theorem dX9_explore_1 : decode cX9_explore 1 = .ok (.invokevirtual 65, 3) := by decide +kernel
theorem dX9_explore_4 : decode cX9_explore 4 = .ok (.aload_n 0, 1) := by decide +kernel
theorem dX9_explore_5 : decode cX9_explore 5 = .ok (.getfield 15, 3) := by decide +kernel
theorem dX9_explore_8 : decode cX9_explore 8 = .ok (.iconst 0, 1) := by decide +kernel
theorem dX9_explore_9 : decode cX9_explore 9 = .ok (.invokestatic 68, 3) := by decide +kernel
theorem dX9_explore_12 : decode cX9_explore 12 = .ok (.aload_n 0, 1) := by decide +kernel
theorem dX9_explore_13 : decode cX9_explore 13 = .ok (.iconst 0, 1) := by decide +kernel
theorem dX9_explore_14 : decode cX9_explore 14 = .ok (.putfield 74, 3) := by decide +kernel
theorem dX9_explore_17 : decode cX9_explore 17 = .ok (.aload_n 0, 1) := by decide +kernel
theorem dX9_explore_18 : decode cX9_explore 18 = .ok (.aload_n 0, 1) := by decide +kernel
theorem dX9_explore_19 : decode cX9_explore 19 = .ok (.getfield 46, 3) := by decide +kernel
theorem dX9_explore_22 : decode cX9_explore 22 = .ok (.getfield 77, 3) := by decide +kernel
theorem dX9_explore_25 : decode cX9_explore 25 = .ok (.putfield 82, 3) := by decide +kernel
theorem dX9_explore_28 : decode cX9_explore 28 = .ok (.aload_n 0, 1) := by decide +kernel
theorem dX9_explore_29 : decode cX9_explore 29 = .ok (.getfield 23, 3) := by decide +kernel
theorem dX9_explore_32 : decode cX9_explore 32 = .ok (.iconst 0, 1) := by decide +kernel
theorem dX9_explore_33 : decode cX9_explore 33 = .ok (.iconst 0, 1) := by decide +kernel
theorem dX9_explore_34 : decode cX9_explore 34 = .ok (.iastore, 1) := by decide +kernel
theorem dX9_explore_35 : decode cX9_explore 35 = .ok (.aload_n 2, 1) := by decide +kernel
theorem dX9_explore_36 : decode cX9_explore 36 = .ok (.aload_n 0, 1) := by decide +kernel
theorem dX9_explore_37 : decode cX9_explore 37 = .ok (.getfield 36, 3) := by decide +kernel
theorem dX9_explore_40 : decode cX9_explore 40 = .ok (.invokevirtual 85, 3) := by decide +kernel
theorem dX9_explore_43 : decode cX9_explore 43 = .ok (.aload_n 0, 1) := by decide +kernel
theorem dX9_explore_44 : decode cX9_explore 44 = .ok (.aload_n 0, 1) := by decide +kernel
theorem dX9_explore_45 : decode cX9_explore 45 = .ok (.getfield 36, 3) := by decide +kernel
theorem dX9_explore_48 : decode cX9_explore 48 = .ok (.aload_n 2, 1) := by decide +kernel
theorem dX9_explore_49 : decode cX9_explore 49 = .ok (.getfield 91, 3) := by decide +kernel
theorem dX9_explore_52 : decode cX9_explore 52 = .ok (.invokevirtual 92, 3) := by decide +kernel
theorem dX9_explore_55 : decode cX9_explore 55 = .ok (.aload_n 0, 1) := by decide +kernel
theorem dX9_explore_56 : decode cX9_explore 56 = .ok (.invokevirtual 96, 3) := by decide +kernel
theorem dX9_explore_59 : decode cX9_explore 59 = .ok (.ifCond .ge 6, 3) := by decide +kernel
theorem dX9_explore_62 : decode cX9_explore 62 = .ok (.bipush (-2), 2) := by decide +kernel
theorem dX9_explore_64 : decode cX9_explore 64 = .ok (.ireturn, 1) := by decide +kernel
theorem dX9_explore_65 : decode cX9_explore 65 = .ok (.aload_n 0, 1) := by decide +kernel
theorem dX9_explore_66 : decode cX9_explore 66 = .ok (.getfield 23, 3) := by decide +kernel
theorem dX9_explore_69 : decode cX9_explore 69 = .ok (.iconst 1, 1) := by decide +kernel
theorem dX9_explore_70 : decode cX9_explore 70 = .ok (.aload_n 0, 1) := by decide +kernel
theorem dX9_explore_71 : decode cX9_explore 71 = .ok (.getfield 74, 3) := by decide +kernel
theorem dX9_explore_74 : decode cX9_explore 74 = .ok (.iastore, 1) := by decide +kernel
theorem dX9_explore_75 : decode cX9_explore 75 = .ok (.iconst 0, 1) := by decide +kernel
theorem dX9_explore_76 : decode cX9_explore 76 = .ok (.istore 4, 2) := by decide +kernel
theorem dX9_explore_78 : decode cX9_explore 78 = .ok (.iload 4, 2) := by decide +kernel
theorem dX9_explore_80 : decode cX9_explore 80 = .ok (.iload_n 1, 1) := by decide +kernel
theorem dX9_explore_81 : decode cX9_explore 81 = .ok (.if_icmp .gt 92, 3) := by decide +kernel
theorem dX9_explore_84 : decode cX9_explore 84 = .ok (.iload 4, 2) := by decide +kernel
theorem dX9_explore_86 : decode cX9_explore 86 = .ok (.bipush 12, 2) := by decide +kernel
theorem dX9_explore_88 : decode cX9_explore 88 = .ok (.if_icmp .gt 85, 3) := by decide +kernel
theorem dX9_explore_91 : decode cX9_explore 91 = .ok (.aload_n 0, 1) := by decide +kernel
theorem dX9_explore_92 : decode cX9_explore 92 = .ok (.aload_n 3, 1) := by decide +kernel
theorem dX9_explore_93 : decode cX9_explore 93 = .ok (.aload_n 2, 1) := by decide +kernel
theorem dX9_explore_94 : decode cX9_explore 94 = .ok (.getfield 91, 3) := by decide +kernel
theorem dX9_explore_97 : decode cX9_explore 97 = .ok (.invokevirtual 92, 3) := by decide +kernel
theorem dX9_explore_100 : decode cX9_explore 100 = .ok (.aload_n 0, 1) := by decide +kernel
theorem dX9_explore_101 : decode cX9_explore 101 = .ok (.getfield 15, 3) := by decide +kernel
theorem dX9_explore_104 : decode cX9_explore 104 = .ok (.aload_n 0, 1) := by decide +kernel
theorem dX9_explore_105 : decode cX9_explore 105 = .ok (.invokevirtual 100, 3) := by decide +kernel
theorem dX9_explore_108 : decode cX9_explore 108 = .ok (.saload, 1) := by decide +kernel
theorem dX9_explore_109 : decode cX9_explore 109 = .ok (.iconst 1, 1) := by decide +kernel
theorem dX9_explore_110 : decode cX9_explore 110 = .ok (.isub, 1) := by decide +kernel
theorem dX9_explore_111 : decode cX9_explore 111 = .ok (.istore 5, 2) := by decide +kernel
theorem dX9_explore_113 : decode cX9_explore 113 = .ok (.iload 5, 2) := by decide +kernel
theorem dX9_explore_115 : decode cX9_explore 115 = .ok (.ifCond .lt 14, 3) := by decide +kernel
theorem dX9_explore_118 : decode cX9_explore 118 = .ok (.aload_n 0, 1) := by decide +kernel
theorem dX9_explore_119 : decode cX9_explore 119 = .ok (.iload 4, 2) := by decide +kernel
theorem dX9_explore_121 : decode cX9_explore 121 = .ok (.iload 5, 2) := by decide +kernel
theorem dX9_explore_123 : decode cX9_explore 123 = .ok (.invokevirtual 103, 3) := by decide +kernel
theorem dX9_explore_126 : decode cX9_explore 126 = .ok (.iload 4, 2) := by decide +kernel
theorem dX9_explore_128 : decode cX9_explore 128 = .ok (.ireturn, 1) := by decide +kernel
theorem dX9_explore_129 : decode cX9_explore 129 = .ok (.iload 4, 2) := by decide +kernel
theorem dX9_explore_131 : decode cX9_explore 131 = .ok (.iload_n 1, 1) := by decide +kernel
theorem dX9_explore_132 : decode cX9_explore 132 = .ok (.if_icmp .eq 17, 3) := by decide +kernel
theorem dX9_explore_135 : decode cX9_explore 135 = .ok (.aload_n 0, 1) := by decide +kernel
theorem dX9_explore_136 : decode cX9_explore 136 = .ok (.getfield 23, 3) := by decide +kernel
theorem dX9_explore_139 : decode cX9_explore 139 = .ok (.iload 4, 2) := by decide +kernel
theorem dX9_explore_141 : decode cX9_explore 141 = .ok (.iaload, 1) := by decide +kernel
theorem dX9_explore_142 : decode cX9_explore 142 = .ok (.aload_n 0, 1) := by decide +kernel
theorem dX9_explore_143 : decode cX9_explore 143 = .ok (.getfield 74, 3) := by decide +kernel
theorem dX9_explore_146 : decode cX9_explore 146 = .ok (.if_icmp .ne 5, 3) := by decide +kernel
theorem dX9_explore_149 : decode cX9_explore 149 = .ok (.iconst (-1), 1) := by decide +kernel
theorem dX9_explore_150 : decode cX9_explore 150 = .ok (.ireturn, 1) := by decide +kernel
theorem dX9_explore_151 : decode cX9_explore 151 = .ok (.aload_n 0, 1) := by decide +kernel
theorem dX9_explore_152 : decode cX9_explore 152 = .ok (.iload 4, 2) := by decide +kernel
theorem dX9_explore_154 : decode cX9_explore 154 = .ok (.aload_n 2, 1) := by decide +kernel
theorem dX9_explore_155 : decode cX9_explore 155 = .ok (.getfield 91, 3) := by decide +kernel
theorem dX9_explore_158 : decode cX9_explore 158 = .ok (.invokevirtual 107, 3) := by decide +kernel
theorem dX9_explore_161 : decode cX9_explore 161 = .ok (.ifCond .ne 6, 3) := by decide +kernel
theorem dX9_explore_164 : decode cX9_explore 164 = .ok (.bipush (-2), 2) := by decide +kernel
theorem dX9_explore_166 : decode cX9_explore 166 = .ok (.ireturn, 1) := by decide +kernel
theorem dX9_explore_167 : decode cX9_explore 167 = .ok (.iinc 4 1, 3) := by decide +kernel
theorem dX9_explore_170 : decode cX9_explore 170 = .ok (.goto (-92), 3) := by decide +kernel
theorem dX9_explore_173 : decode cX9_explore 173 = .ok (.iconst (-1), 1) := by decide +kernel
theorem dX9_explore_174 : decode cX9_explore 174 = .ok (.ireturn, 1) := by decide +kernel
abbrev rm_f_X9_explore : Room := { frames := 6, cells := 0, slots := 0, locals := 177 }
def f_X9_explore_L78 (N : Nat) (o2 : Nat) (q2 : Nat) (n2 : Nat) (K17 : (Int → Int → St → Option (Int × St))) (K18 : (St → Option (Int × St))) (y14 : Int) : Nat → Int → St → Option (Int × St)
  | 0, _, _ => none
  | n9 + 1, x15, t16 =>
    cmpI x15 y14 (if y14 < x15 then (K18 t16)
    else (cmpI x15 12 (if 12 < x15 then (K18 t16)
    else (lt1 (t16.1 (305 + o2) 8) fun v19 =>
    bdV (f_X9_pack N q2 n2 v19 t16) fun t20 =>
    bdI (f_X9_placeOfKey N t20) fun v22 t21 =>
    ixI v22 4096 (lt1 (t21.1 431 v22.toNat) fun v23 =>
    cmpI (v23 - 1) 0 (if (v23 - 1) < 0 then (cmpI x15 y14 (if x15 = y14 then (some ((-1), t21))
    else (ixI x15 15 (lt1 (t21.1 433 x15.toNat) fun v24 =>
    lt1 (t21.1 310 11) fun v25 =>
    cmpI v24 v25 (if v24 = v25 then (some ((-1), t21))
    else (lt1 (t21.1 (305 + o2) 8) fun v26 =>
    bdI (f_X9_widen N x15 v26 t21) fun v28 t27 =>
    cmpI v28 0 (if v28 = 0 then (some ((-2), t27))
    else (f_X9_explore_L78 N o2 q2 n2 K17 K18 y14 n9 (x15 + 1) t27))))))))
    else (K17 x15 (v23 - 1) t21)))))))
def f_X9_explore (N : Nat) (o2 : Nat) (q2 : Nat) (n2 : Nat) (a0 : Int) (t : St) : Option (Int × St) :=
    bdV (f_X9_forget N t) fun t1 =>
    bdV (f_J7_fill_fb410 N 431 4096 0 t1) fun t2 =>
    lt1 (pI t2 310 11 0) fun t3 =>
    lt1 (t3.1 302 16) fun v4 =>
    lt1 (pI t3 310 12 v4) fun t5 =>
    ixI 0 15 (lt1 (pI t5 433 (0 : Int).toNat 0) fun t6 =>
    bdV (f_X3_copyCodes N o2 437 16 t6) fun t7 =>
    lt1 (t7.1 (305 + o2) 8) fun v8 =>
    bdV (f_X9_pack N 437 16 v8 t7) fun t9 =>
    bdI (f_X9_meet N t9) fun v11 t10 =>
    cmpI v11 0 (if v11 < 0 then (some ((-2), t10))
    else (lt1 (t10.1 310 11) fun v12 =>
    ixI 1 15 (lt1 (pI t10 433 (1 : Int).toNat v12) fun t13 =>
    f_X9_explore_L78 N o2 q2 n2 (fun (k29 : Int) (k30 : Int) (t31 : St) => bdV (f_X9_findRows N k29 k30 t31) fun t32 =>
    some (k29, t32)) (fun (t33 : St) => some ((-1), t33)) a0 N 0 t13))))
set_option maxHeartbeats 4000000 in
set_option maxRecDepth 100000 in
theorem t_f_X9_explore_L78 {p : Program} {l : Launch} {e : Env} {s : State} {m : MethodId} {args : Array Value} {below : List Frame} {meth : Method} {c : Code} {E : cE} {A : Nat → Prop} {r : Nat → Nat} {mc ms : Nat} {z : Int × St} {o2 : Nat} (ho2 : o2 < 2) {q2 n2 : Nat} (hq2 : gA shH q2 1 n2) {N : Nat} {K17 : (Int → Int → St → Option (Int × St))} {K18 : (St → Option (Int × St))} {y14 : Int} (X : gX p s m meth c cX9_explore 6 (some .int) yX9_explore args E A) (hK17 : ∀ (q4 : Int) (q5 : Int) (t9 : St), K17 q4 q5 t9 = some z → gP p l e rm_f_X9_explore s m args below meth c E A 6 (MQ below ((gqI E (gW E r shH) z) A) args s mc ms A) (gW E r shH) 118 [(0, .ref (r 310)), (4, iv q4), (5, iv q5)] [] t9) (hK18 : ∀ (t9 : St), K18 t9 = some z → gP p l e rm_f_X9_explore s m args below meth c E A 6 (MQ below ((gqI E (gW E r shH) z) A) args s mc ms A) (gW E r shH) 173 [] [] t9) : ∀ (n9 : Nat) (x15 : Int) (t16 : St), f_X9_explore_L78 N o2 q2 n2 K17 K18 y14 n9 x15 t16 = some z → gP p l e rm_f_X9_explore s m args below meth c E A 6 (MQ below ((gqI E (gW E r shH) z) A) args s mc ms A) (gW E r shH) 78 [(0, .ref (r 310)), (1, iv y14), (2, .ref (r (305 + o2))), (3, .ref (r q2)), (4, iv x15)] [] t16 := by
  intro n9
  induction n9 with
  | zero => intro x15 t16 h; cases h
  | succ n9 ih =>
    intro x15 t16 h
    unfold f_X9_explore_L78 at h
    refine g_iload X dX9_explore_78 4 rfl ?_
    refine g_iload_n X dX9_explore_80 1 rfl ?_
    refine g_icmp_gt (tgt := 173) X dX9_explore_81 (by decide) h (fun h => ?_) (fun h => ?_)
    · exact g_sub (lv' := []) [] rfl (hK18 t16 h)
    · refine g_iload X dX9_explore_84 4 rfl ?_
      refine g_bipush X dX9_explore_86 (by decide) ?_
      refine g_icmp_gt (tgt := 173) X dX9_explore_88 (by decide) h (fun h => ?_) (fun h => ?_)
      · exact g_sub (lv' := []) [] rfl (hK18 t16 h)
      · refine g_aload_n X dX9_explore_91 0 rfl ?_
        refine g_aload_n X dX9_explore_92 3 rfl ?_
        refine g_aload_n X dX9_explore_93 2 rfl ?_
        refine g_getI X (fH_X9_91_o (o := o2) ho2) rfl dX9_explore_94 h (fun v19 h => ?_)
        refine g_callOV (rest := []) X (fun u9 h9 => cp_X9_pack l E r N q2 n2 hq2 v19 t16 u9 h9) yy_X9_pack yi_X9_pack wdM_RX9_92 ⟨_, _, oH_310⟩ rfl rfl rfl (Nat.le_of_ble_eq_true rfl) dX9_explore_97 ⟨by decide, by decide⟩ ⟨rfl, rfl⟩ h (fun t20 h => ?_)
        refine g_aload_n X dX9_explore_100 0 rfl ?_
        refine g_getR X fH_X9_15_310 rfl dX9_explore_101 ?_
        refine g_aload_n X dX9_explore_104 0 rfl ?_
        refine g_callOI (rest := [.ref (r 431)]) X (fun u9 h9 => cp_X9_placeOfKey l E r N t20 u9 h9) yy_X9_placeOfKey yi_X9_placeOfKey wdM_RX9_100 ⟨_, _, oH_310⟩ rfl rfl rfl (Nat.le_of_ble_eq_true rfl) dX9_explore_105 ⟨by decide, by decide⟩ ⟨rfl, rfl⟩ h (fun v22 t21 h => ?_)
        refine g_sald X aH_431 dX9_explore_108 h (fun v23 h => ?_)
        refine g_iconst X dX9_explore_109 ?_
        refine g_isub X dX9_explore_110 ?_
        refine g_istore (lv' := [(5, iv (v23 - 1)), (0, .ref (r 310)), (1, iv y14), (2, .ref (r (305 + o2))), (3, .ref (r q2)), (4, iv x15)]) X dX9_explore_111 (by decide) rfl ?_
        refine g_iload X dX9_explore_113 0 rfl ?_
        refine g_if_lt (tgt := 129) X dX9_explore_115 (by decide) h (fun h => ?_) (fun h => ?_)
        · refine g_iload X dX9_explore_129 5 rfl ?_
          refine g_iload_n X dX9_explore_131 2 rfl ?_
          refine g_icmp_eq (tgt := 149) X dX9_explore_132 (by decide) h (fun h => ?_) (fun h => ?_)
          · refine g_iconst X dX9_explore_149 ?_
            exact g_iret X h dX9_explore_150
          · refine g_aload_n X dX9_explore_135 1 rfl ?_
            refine g_getR X fH_X9_23_310 rfl dX9_explore_136 ?_
            refine g_iload X dX9_explore_139 5 rfl ?_
            refine g_iald X aH_433 dX9_explore_141 h (fun v24 h => ?_)
            refine g_aload_n X dX9_explore_142 1 rfl ?_
            refine g_getI X fH_X9_74_310 rfl dX9_explore_143 h (fun v25 h => ?_)
            refine g_icmp_ne (tgt := 151) X dX9_explore_146 (by decide) h (fun h => ?_) (fun h => ?_)
            · refine g_aload_n X dX9_explore_151 1 rfl ?_
              refine g_iload X dX9_explore_152 5 rfl ?_
              refine g_aload_n X dX9_explore_154 3 rfl ?_
              refine g_getI X (fH_X9_91_o (o := o2) ho2) rfl dX9_explore_155 h (fun v26 h => ?_)
              refine g_callOI (rest := []) X (fun u9 h9 => cp_X9_widen l E r N x15 v26 t21 u9 h9) yy_X9_widen yi_X9_widen wdM_RX9_107 ⟨_, _, oH_310⟩ rfl rfl rfl (Nat.le_of_ble_eq_true rfl) dX9_explore_158 ⟨by decide, by decide⟩ ⟨rfl, rfl⟩ h (fun v28 t27 h => ?_)
              refine g_if_ne (tgt := 167) X dX9_explore_161 (by decide) h (fun h => ?_) (fun h => ?_)
              · refine g_iinc (lv' := [(4, iv (x15 + 1)), (5, iv (v23 - 1)), (0, .ref (r 310)), (1, iv y14), (2, .ref (r (305 + o2))), (3, .ref (r q2))]) X dX9_explore_167 (k := 5) rfl (by decide) rfl ?_
                refine g_goto (tgt := 78) X dX9_explore_170 (by decide) ?_
                exact g_sub (lv' := [(0, .ref (r 310)), (1, iv y14), (2, .ref (r (305 + o2))), (3, .ref (r q2)), (4, iv (x15 + 1))]) [2, 3, 4, 5, 0] rfl (ih (x15 + 1) t27 h)
              · refine g_bipush X dX9_explore_164 (by decide) ?_
                exact g_iret X h dX9_explore_166
            · refine g_iconst X dX9_explore_149 ?_
              exact g_iret X h dX9_explore_150
        · exact g_sub (lv' := [(0, .ref (r 310)), (4, iv x15), (5, iv (v23 - 1))]) [1, 5, 0] rfl (hK17 x15 (v23 - 1) t21 h)
set_option maxHeartbeats 4000000 in
set_option maxRecDepth 100000 in
theorem b_f_X9_explore {p : Program} {l : Launch} {e : Env} {s : State} {m : MethodId} {args : Array Value} {below : List Frame} {meth : Method} {c : Code} {E : cE} {A : Nat → Prop} {r : Nat → Nat} {mc ms : Nat} {z : Int × St} {N : Nat} {o2 : Nat} (ho2 : o2 < 2) {q2 n2 : Nat} (hq2 : gA shH q2 1 n2) {a0 : Int} {t : St} (X : gX p s m meth c cX9_explore 6 (some .int) yX9_explore args E A) (h : f_X9_explore N o2 q2 n2 a0 t = some z) : gP p l e rm_f_X9_explore s m args below meth c E A 6 (MQ below ((gqI E (gW E r shH) z) A) args s mc ms A) (gW E r shH) 0 [(0, .ref (r 310)), (1, iv a0), (2, .ref (r (305 + o2))), (3, .ref (r q2))] [] t := by
  unfold f_X9_explore at h
  refine g_aload_n X dX9_explore_0 0 rfl ?_
  refine g_callOV (rest := []) X (fun u9 h9 => cp_X9_forget l E r N t u9 h9) yy_X9_forget yi_X9_forget wdM_RX9_65 ⟨_, _, oH_310⟩ rfl rfl rfl (Nat.le_of_ble_eq_true rfl) dX9_explore_1 ⟨by decide, by decide⟩ ⟨rfl, rfl⟩ h (fun t1 h => ?_)
  refine g_aload_n X dX9_explore_4 0 rfl ?_
  refine g_getR X fH_X9_15_310 rfl dX9_explore_5 ?_
  refine g_iconst X dX9_explore_8 ?_
  refine g_callsV (rest := []) X (fun u9 h9 => cp_J7_fill_fb410 l E r N 431 4096 aH_431 0 t1 u9 h9) yy_J7_fill_fb410 wdT_J7_fill_fb410 wdM_RX9_68 rfl rfl (Nat.le_of_ble_eq_true rfl) dX9_explore_9 ⟨by decide, by decide⟩ ⟨rfl, rfl⟩ h (fun t2 h => ?_)
  refine g_aload_n X dX9_explore_12 0 rfl ?_
  refine g_iconst X dX9_explore_13 ?_
  refine g_putI X fH_X9_74_310w rfl dX9_explore_14 h (fun t3 h => ?_)
  refine g_aload_n X dX9_explore_17 0 rfl ?_
  refine g_aload_n X dX9_explore_18 0 rfl ?_
  refine g_getR X fH_X9_46_310 rfl dX9_explore_19 ?_
  refine g_getI X fH_X9_77_302 rfl dX9_explore_22 h (fun v4 h => ?_)
  refine g_putI X fH_X9_82_310w rfl dX9_explore_25 h (fun t5 h => ?_)
  refine g_aload_n X dX9_explore_28 0 rfl ?_
  refine g_getR X fH_X9_23_310 rfl dX9_explore_29 ?_
  refine g_iconst X dX9_explore_32 ?_
  refine g_iconst X dX9_explore_33 ?_
  refine g_iast X aH_433 dX9_explore_34 h (fun t6 h => ?_)
  refine g_aload_n X dX9_explore_35 2 rfl ?_
  refine g_aload_n X dX9_explore_36 0 rfl ?_
  refine g_getR X fH_X9_36_310 rfl dX9_explore_37 ?_
  refine g_callOV (rest := []) X (fun u9 h9 => cp_X3_copyCodes l E r N o2 ho2 437 16 aH_437 t6 u9 h9) yy_X3_copyCodes yi_X3_copyCodes wdM_RX9_85 (oX3 (o := o2) ho2) rfl rfl rfl (Nat.le_of_ble_eq_true rfl) dX9_explore_40 ⟨by decide, by decide⟩ ⟨rfl, rfl⟩ h (fun t7 h => ?_)
  refine g_aload_n X dX9_explore_43 0 rfl ?_
  refine g_aload_n X dX9_explore_44 0 rfl ?_
  refine g_getR X fH_X9_36_310 rfl dX9_explore_45 ?_
  refine g_aload_n X dX9_explore_48 2 rfl ?_
  refine g_getI X (fH_X9_91_o (o := o2) ho2) rfl dX9_explore_49 h (fun v8 h => ?_)
  refine g_callOV (rest := []) X (fun u9 h9 => cp_X9_pack l E r N 437 16 aH_437 v8 t7 u9 h9) yy_X9_pack yi_X9_pack wdM_RX9_92 ⟨_, _, oH_310⟩ rfl rfl rfl (Nat.le_of_ble_eq_true rfl) dX9_explore_52 ⟨by decide, by decide⟩ ⟨rfl, rfl⟩ h (fun t9 h => ?_)
  refine g_aload_n X dX9_explore_55 0 rfl ?_
  refine g_callOI (rest := []) X (fun u9 h9 => cp_X9_meet l E r N t9 u9 h9) yy_X9_meet yi_X9_meet wdM_RX9_96 ⟨_, _, oH_310⟩ rfl rfl rfl (Nat.le_of_ble_eq_true rfl) dX9_explore_56 ⟨by decide, by decide⟩ ⟨rfl, rfl⟩ h (fun v11 t10 h => ?_)
  refine g_if_ge (tgt := 65) X dX9_explore_59 (by decide) h (fun h => ?_) (fun h => ?_)
  · refine g_aload_n X dX9_explore_65 0 rfl ?_
    refine g_getR X fH_X9_23_310 rfl dX9_explore_66 ?_
    refine g_iconst X dX9_explore_69 ?_
    refine g_aload_n X dX9_explore_70 0 rfl ?_
    refine g_getI X fH_X9_74_310 rfl dX9_explore_71 h (fun v12 h => ?_)
    refine g_iast X aH_433 dX9_explore_74 h (fun t13 h => ?_)
    refine g_iconst X dX9_explore_75 ?_
    refine g_istore (lv' := [(4, iv 0), (0, .ref (r 310)), (1, iv a0), (2, .ref (r (305 + o2))), (3, .ref (r q2))]) X dX9_explore_76 (by decide) rfl ?_
    refine g_sub (lv' := [(0, .ref (r 310)), (1, iv a0), (2, .ref (r (305 + o2))), (3, .ref (r q2)), (4, iv 0)]) [1, 2, 3, 4, 0] rfl (t_f_X9_explore_L78 ho2 hq2 X (fun k29 k30 t31 h => ?_) (fun t33 h => ?_) N 0 t13 h)
    · refine g_aload_n X dX9_explore_118 0 rfl ?_
      refine g_iload X dX9_explore_119 1 rfl ?_
      refine g_iload X dX9_explore_121 2 rfl ?_
      refine g_callOV (rest := []) X (fun u9 h9 => cp_X9_findRows l E r N k29 k30 t31 u9 h9) yy_X9_findRows yi_X9_findRows wdM_RX9_103 ⟨_, _, oH_310⟩ rfl rfl rfl (Nat.le_of_ble_eq_true rfl) dX9_explore_123 ⟨by decide, by decide⟩ ⟨rfl, rfl⟩ h (fun t32 h => ?_)
      refine g_iload X dX9_explore_126 1 rfl ?_
      exact g_iret X h dX9_explore_128
    · refine g_iconst X dX9_explore_173 ?_
      exact g_iret X h dX9_explore_174
  · refine g_bipush X dX9_explore_62 (by decide) ?_
    exact g_iret X h dX9_explore_64
set_option maxHeartbeats 4000000 in
set_option maxRecDepth 100000 in
theorem cp_X9_explore (l : Launch) (E : cE) (r : Nat → Nat) (N : Nat) (o2 : Nat) (ho2 : o2 < 2) (q2 n2 : Nat) (hq2 : gA shH q2 1 n2) (a0 : Int) (t : St) (z : Int × St) (h : f_X9_explore N o2 q2 n2 a0 t = some z) : cM l E yX9_explore cX9_explore 6 (some .int) rm_f_X9_explore [.ref (r 310), iv a0, .ref (r (305 + o2)), .ref (r q2)] (gW E r shH t) (gqI E (gW E r shH) z) := by
  refine g_of (w := gW E r shH) (by decide) (Nat.le_of_ble_eq_true rfl) ?_
  intro p e s m below meth c A X
  exact g_sub (lv' := [(0, .ref (r 310)), (1, iv a0), (2, .ref (r (305 + o2))), (3, .ref (r q2))]) [0, 1, 2, 3] rfl (b_f_X9_explore ho2 hq2 X h)
theorem yy_X9_explore : cY yX9_explore cX9_explore 6 (some .int) 3 := ⟨wdK_X9_explore, wdZ_RX9, by decide +kernel⟩
theorem yi_X9_explore : cYi yX9_explore := ⟨wdN_X9_explore, wdS_X9_explore⟩
theorem dX9_countRows_0 : decode cX9_countRows 0 = .ok (.aload_n 0, 1) := by decide +kernel
theorem dX9_countRows_1 : decode cX9_countRows 1 = .ok (.getfield 39, 3) := by decide +kernel
theorem dX9_countRows_4 : decode cX9_countRows 4 = .ok (.ifCond .ge 7, 3) := by decide +kernel
theorem dX9_countRows_7 : decode cX9_countRows 7 = .ok (.lconst 0, 1) := by decide +kernel
theorem dX9_countRows_8 : decode cX9_countRows 8 = .ok (.goto 9, 3) := by decide +kernel
theorem dX9_countRows_11 : decode cX9_countRows 11 = .ok (.aload_n 0, 1) := by decide +kernel
theorem dX9_countRows_12 : decode cX9_countRows 12 = .ok (.getfield 27, 3) := by decide +kernel
theorem dX9_countRows_15 : decode cX9_countRows 15 = .ok (.iconst 0, 1) := by decide +kernel
theorem dX9_countRows_16 : decode cX9_countRows 16 = .ok (.laload, 1) := by decide +kernel
theorem dX9_countRows_17 : decode cX9_countRows 17 = .ok (.lreturn, 1) := by decide +kernel
abbrev rm_f_X9_countRows : Room := { frames := 0, cells := 0, slots := 0, locals := 0 }
def f_X9_countRows (N : Nat) (t : St) : Option (Int64 × St) :=
    lt1 (t.1 310 14) fun v1 =>
    cmpI v1 0 (if v1 < 0 then (some ((0 : Int64), t))
    else (ixI 0 2000 (lt1 (t.2 434 (0 : Int).toNat) fun v2 =>
    some (v2, t))))
set_option maxHeartbeats 4000000 in
set_option maxRecDepth 100000 in
theorem b_f_X9_countRows {p : Program} {l : Launch} {e : Env} {s : State} {m : MethodId} {args : Array Value} {below : List Frame} {meth : Method} {c : Code} {E : cE} {A : Nat → Prop} {r : Nat → Nat} {mc ms : Nat} {z : Int64 × St} {N : Nat} {t : St} (X : gX p s m meth c cX9_countRows 1 (some .long) yX9_countRows args E A) (h : f_X9_countRows N t = some z) : gP p l e rm_f_X9_countRows s m args below meth c E A 1 (MQ below ((gqL E (gW E r shH) z) A) args s mc ms A) (gW E r shH) 0 [(0, .ref (r 310))] [] t := by
  unfold f_X9_countRows at h
  refine g_aload_n X dX9_countRows_0 0 rfl ?_
  refine g_getI X fH_X9_39_310 rfl dX9_countRows_1 h (fun v1 h => ?_)
  refine g_if_ge (tgt := 11) X dX9_countRows_4 (by decide) h (fun h => ?_) (fun h => ?_)
  · refine g_aload_n X dX9_countRows_11 0 rfl ?_
    refine g_getR X fH_X9_27_310 rfl dX9_countRows_12 ?_
    refine g_iconst X dX9_countRows_15 ?_
    refine g_lald X aH_434 dX9_countRows_16 h (fun v2 h => ?_)
    exact g_lret X h dX9_countRows_17
  · refine g_lconst (v := 0) X dX9_countRows_7 (by decide) ?_
    refine g_goto (tgt := 17) X dX9_countRows_8 (by decide) ?_
    exact g_lret X h dX9_countRows_17
set_option maxHeartbeats 4000000 in
set_option maxRecDepth 100000 in
theorem cp_X9_countRows (l : Launch) (E : cE) (r : Nat → Nat) (N : Nat) (t : St) (z : Int64 × St) (h : f_X9_countRows N t = some z) : cM l E yX9_countRows cX9_countRows 1 (some .long) rm_f_X9_countRows [.ref (r 310)] (gW E r shH t) (gqL E (gW E r shH) z) := by
  refine g_of (w := gW E r shH) (by decide) (Nat.le_of_ble_eq_true rfl) ?_
  intro p e s m below meth c A X
  exact g_sub (lv' := [(0, .ref (r 310))]) [0] rfl (b_f_X9_countRows X h)
theorem yy_X9_countRows : cY yX9_countRows cX9_countRows 1 (some .long) 0 := ⟨wdK_X9_countRows, wdZ_RX9, by decide +kernel⟩
theorem yi_X9_countRows : cYi yX9_countRows := ⟨wdN_X9_countRows, wdS_X9_countRows⟩
theorem dX9_choose_0 : decode cX9_choose 0 = .ok (.lload_n 1, 1) := by decide +kernel
theorem dX9_choose_1 : decode cX9_choose 1 = .ok (.lconst 0, 1) := by decide +kernel
theorem dX9_choose_2 : decode cX9_choose 2 = .ok (.lcmp, 1) := by decide +kernel
theorem dX9_choose_3 : decode cX9_choose 3 = .ok (.ifCond .lt 12, 3) := by decide +kernel
theorem dX9_choose_6 : decode cX9_choose 6 = .ok (.lload_n 1, 1) := by decide +kernel
theorem dX9_choose_7 : decode cX9_choose 7 = .ok (.aload_n 0, 1) := by decide +kernel
theorem dX9_choose_8 : decode cX9_choose 8 = .ok (.invokevirtual 163, 3) := by decide +kernel
theorem dX9_choose_11 : decode cX9_choose 11 = .ok (.lcmp, 1) := by decide +kernel
theorem dX9_choose_12 : decode cX9_choose 12 = .ok (.ifCond .lt 5, 3) := by decide +kernel
theorem dX9_choose_15 : decode cX9_choose 15 = .ok (.iconst 0, 1) := by decide +kernel
theorem dX9_choose_16 : decode cX9_choose 16 = .ok (.ireturn, 1) := by decide +kernel
theorem dX9_choose_17 : decode cX9_choose 17 = .ok (.lload_n 1, 1) := by decide +kernel
theorem dX9_choose_18 : decode cX9_choose 18 = .ok (.lstore_n 3, 1) := by decide +kernel
theorem dX9_choose_19 : decode cX9_choose 19 = .ok (.iconst 0, 1) := by decide +kernel
theorem dX9_choose_20 : decode cX9_choose 20 = .ok (.istore 5, 2) := by decide +kernel
theorem dX9_choose_22 : decode cX9_choose 22 = .ok (.iconst 0, 1) := by decide +kernel
theorem dX9_choose_23 : decode cX9_choose 23 = .ok (.istore 6, 2) := by decide +kernel
theorem dX9_choose_25 : decode cX9_choose 25 = .ok (.iload 6, 2) := by decide +kernel
theorem dX9_choose_27 : decode cX9_choose 27 = .ok (.aload_n 0, 1) := by decide +kernel
theorem dX9_choose_28 : decode cX9_choose 28 = .ok (.getfield 39, 3) := by decide +kernel
theorem dX9_choose_31 : decode cX9_choose 31 = .ok (.if_icmp .ge 91, 3) := by decide +kernel
theorem dX9_choose_34 : decode cX9_choose 34 = .ok (.iconst 0, 1) := by decide +kernel
theorem dX9_choose_35 : decode cX9_choose 35 = .ok (.istore 7, 2) := by decide +kernel
theorem dX9_choose_37 : decode cX9_choose 37 = .ok (.iload 7, 2) := by decide +kernel
theorem dX9_choose_39 : decode cX9_choose 39 = .ok (.aload_n 0, 1) := by decide +kernel
theorem dX9_choose_40 : decode cX9_choose 40 = .ok (.getfield 82, 3) := by decide +kernel
theorem dX9_choose_43 : decode cX9_choose 43 = .ok (.if_icmp .ge 73, 3) := by decide +kernel
theorem dX9_choose_46 : decode cX9_choose 46 = .ok (.aload_n 0, 1) := by decide +kernel
theorem dX9_choose_47 : decode cX9_choose 47 = .ok (.iload 5, 2) := by decide +kernel
theorem dX9_choose_49 : decode cX9_choose 49 = .ok (.iload 7, 2) := by decide +kernel
theorem dX9_choose_51 : decode cX9_choose 51 = .ok (.iload 6, 2) := by decide +kernel
theorem dX9_choose_53 : decode cX9_choose 53 = .ok (.invokevirtual 150, 3) := by decide +kernel
theorem dX9_choose_56 : decode cX9_choose 56 = .ok (.istore 8, 2) := by decide +kernel
theorem dX9_choose_58 : decode cX9_choose 58 = .ok (.iload 8, 2) := by decide +kernel
theorem dX9_choose_60 : decode cX9_choose 60 = .ok (.ifCond .lt 31, 3) := by decide +kernel
theorem dX9_choose_63 : decode cX9_choose 63 = .ok (.lload_n 3, 1) := by decide +kernel
theorem dX9_choose_64 : decode cX9_choose 64 = .ok (.aload_n 0, 1) := by decide +kernel
theorem dX9_choose_65 : decode cX9_choose 65 = .ok (.getfield 27, 3) := by decide +kernel
theorem dX9_choose_68 : decode cX9_choose 68 = .ok (.iload 8, 2) := by decide +kernel
theorem dX9_choose_70 : decode cX9_choose 70 = .ok (.laload, 1) := by decide +kernel
theorem dX9_choose_71 : decode cX9_choose 71 = .ok (.lcmp, 1) := by decide +kernel
theorem dX9_choose_72 : decode cX9_choose 72 = .ok (.ifCond .ge 19, 3) := by decide +kernel
theorem dX9_choose_75 : decode cX9_choose 75 = .ok (.aload_n 0, 1) := by decide +kernel
theorem dX9_choose_76 : decode cX9_choose 76 = .ok (.getfield 43, 3) := by decide +kernel
theorem dX9_choose_79 : decode cX9_choose 79 = .ok (.iload 6, 2) := by decide +kernel
theorem dX9_choose_81 : decode cX9_choose 81 = .ok (.iload 7, 2) := by decide +kernel
theorem dX9_choose_83 : decode cX9_choose 83 = .ok (.iastore, 1) := by decide +kernel
theorem dX9_choose_84 : decode cX9_choose 84 = .ok (.iload 8, 2) := by decide +kernel
theorem dX9_choose_86 : decode cX9_choose 86 = .ok (.istore 5, 2) := by decide +kernel
theorem dX9_choose_88 : decode cX9_choose 88 = .ok (.goto 28, 3) := by decide +kernel
theorem dX9_choose_91 : decode cX9_choose 91 = .ok (.lload_n 3, 1) := by decide +kernel
theorem dX9_choose_92 : decode cX9_choose 92 = .ok (.iload 8, 2) := by decide +kernel
theorem dX9_choose_94 : decode cX9_choose 94 = .ok (.ifCond .lt 13, 3) := by decide +kernel
theorem dX9_choose_97 : decode cX9_choose 97 = .ok (.aload_n 0, 1) := by decide +kernel
theorem dX9_choose_98 : decode cX9_choose 98 = .ok (.getfield 27, 3) := by decide +kernel
theorem dX9_choose_101 : decode cX9_choose 101 = .ok (.iload 8, 2) := by decide +kernel
theorem dX9_choose_103 : decode cX9_choose 103 = .ok (.laload, 1) := by decide +kernel
theorem dX9_choose_104 : decode cX9_choose 104 = .ok (.goto 4, 3) := by decide +kernel
theorem dX9_choose_107 : decode cX9_choose 107 = .ok (.lconst 0, 1) := by decide +kernel
theorem dX9_choose_108 : decode cX9_choose 108 = .ok (.lsub, 1) := by decide +kernel
theorem dX9_choose_109 : decode cX9_choose 109 = .ok (.lstore_n 3, 1) := by decide +kernel
theorem dX9_choose_110 : decode cX9_choose 110 = .ok (.iinc 7 1, 3) := by decide +kernel
theorem dX9_choose_113 : decode cX9_choose 113 = .ok (.goto (-76), 3) := by decide +kernel
theorem dX9_choose_116 : decode cX9_choose 116 = .ok (.iinc 6 1, 3) := by decide +kernel
theorem dX9_choose_119 : decode cX9_choose 119 = .ok (.goto (-94), 3) := by decide +kernel
theorem dX9_choose_122 : decode cX9_choose 122 = .ok (.aload_n 0, 1) := by decide +kernel
theorem dX9_choose_123 : decode cX9_choose 123 = .ok (.iconst 1, 1) := by decide +kernel
theorem dX9_choose_124 : decode cX9_choose 124 = .ok (.putfield 58, 3) := by decide +kernel
theorem dX9_choose_127 : decode cX9_choose 127 = .ok (.aload_n 0, 1) := by decide +kernel
theorem dX9_choose_128 : decode cX9_choose 128 = .ok (.iconst 0, 1) := by decide +kernel
theorem dX9_choose_129 : decode cX9_choose 129 = .ok (.putfield 62, 3) := by decide +kernel
theorem dX9_choose_132 : decode cX9_choose 132 = .ok (.iconst 1, 1) := by decide +kernel
theorem dX9_choose_133 : decode cX9_choose 133 = .ok (.ireturn, 1) := by decide +kernel
abbrev rm_f_X9_choose : Room := { frames := 1, cells := 0, slots := 0, locals := 25 }
def f_X9_choose_L37 (N : Nat) (K14 : (Int64 → Int → Int → St → Option (Int × St))) (K15 : (Int64 → St → Option (Int × St))) (y10 : Int) (y11 : Int) : Nat → Int64 → Int → St → Option (Int × St)
  | 0, _, _, _ => none
  | n9 + 1, x9, x12, t13 =>
    lt1 (t13.1 310 12) fun v16 =>
    cmpI x12 v16 (if x12 < v16 then (bdI (f_X9_onward N y10 x12 y11 t13) fun v18 t17 =>
    jn1 (fun (t19 : St) => jn1 (fun (j21 : Int64) (t22 : St) => f_X9_choose_L37 N K14 K15 y10 y11 n9 (x9 - j21) (x12 + 1) t22) fun J23 =>
    cmpI v18 0 (if v18 < 0 then (J23 (0 : Int64) t19)
    else (ixI v18 2000 (lt1 (t19.2 434 v18.toNat) fun v24 =>
    J23 v24 t19)))) fun J20 =>
    cmpI v18 0 (if v18 < 0 then (J20 t17)
    else (ixI v18 2000 (lt1 (t17.2 434 v18.toNat) fun v25 =>
    (if x9 < v25 then (K14 x9 x12 v18 t17)
    else (J20 t17))))))
    else (K15 x9 t13))
def f_X9_choose_L25 (N : Nat) (K7 : (St → Option (Int × St))) : Nat → Int64 → Int → Int → St → Option (Int × St)
  | 0, _, _, _, _ => none
  | n9 + 1, x3, x4, x5, t6 =>
    lt1 (t6.1 310 14) fun v8 =>
    cmpI x5 v8 (if x5 < v8 then (f_X9_choose_L37 N (fun (k26 : Int64) (k27 : Int) (k28 : Int) (t29 : St) => ixI x5 12 (lt1 (pI t29 438 x5.toNat k27) fun t30 =>
    f_X9_choose_L25 N K7 n9 k26 k28 (x5 + 1) t30)) (fun (k31 : Int64) (t32 : St) => f_X9_choose_L25 N K7 n9 k31 x4 (x5 + 1) t32) x4 x5 N x3 0 t6)
    else (K7 t6))
def f_X9_choose (N : Nat) (a0 : Int64) (t : St) : Option (Int × St) :=
    (if a0 < (0 : Int64) then (boI 0 (some (0, t)))
    else (bdL (f_X9_countRows N t) fun v2 t1 =>
    (if a0 < v2 then (f_X9_choose_L25 N (fun (t33 : St) => boI 1 (lt1 (pI t33 310 16 1) fun t34 =>
    lt1 (pI t34 310 17 0) fun t35 =>
    boI 1 (some (1, t35)))) N a0 0 0 t1)
    else (boI 0 (some (0, t1))))))
set_option maxHeartbeats 4000000 in
set_option maxRecDepth 100000 in
theorem t_f_X9_choose_L37 {p : Program} {l : Launch} {e : Env} {s : State} {m : MethodId} {args : Array Value} {below : List Frame} {meth : Method} {c : Code} {E : cE} {A : Nat → Prop} {r : Nat → Nat} {mc ms : Nat} {z : Int × St} {N : Nat} {K14 : (Int64 → Int → Int → St → Option (Int × St))} {K15 : (Int64 → St → Option (Int × St))} {y10 : Int} {y11 : Int} (X : gX p s m meth c cX9_choose 9 (some .boolean) yX9_choose args E A) (hK14 : ∀ (q3 : Int64) (q7 : Int) (q8 : Int) (t9 : St), K14 q3 q7 q8 t9 = some z → gP p l e rm_f_X9_choose s m args below meth c E A 9 (MQ below ((gqI E (gW E r shH) z) A) args s mc ms A) (gW E r shH) 75 [(0, .ref (r 310)), (3, .long q3), (6, iv y11), (7, iv q7), (8, iv q8)] [] t9) (hK15 : ∀ (q3 : Int64) (t9 : St), K15 q3 t9 = some z → gP p l e rm_f_X9_choose s m args below meth c E A 9 (MQ below ((gqI E (gW E r shH) z) A) args s mc ms A) (gW E r shH) 116 [(0, .ref (r 310)), (3, .long q3), (5, iv y10), (6, iv y11)] [] t9) : ∀ (n9 : Nat) (x9 : Int64) (x12 : Int) (t13 : St), f_X9_choose_L37 N K14 K15 y10 y11 n9 x9 x12 t13 = some z → gP p l e rm_f_X9_choose s m args below meth c E A 9 (MQ below ((gqI E (gW E r shH) z) A) args s mc ms A) (gW E r shH) 37 [(0, .ref (r 310)), (3, .long x9), (5, iv y10), (6, iv y11), (7, iv x12)] [] t13 := by
  intro n9
  induction n9 with
  | zero => intro x9 x12 t13 h; cases h
  | succ n9 ih =>
    intro x9 x12 t13 h
    unfold f_X9_choose_L37 at h
    refine g_iload X dX9_choose_37 4 rfl ?_
    refine g_aload_n X dX9_choose_39 0 rfl ?_
    refine g_getI X fH_X9_82_310 rfl dX9_choose_40 h (fun v16 h => ?_)
    refine g_icmp_ge (tgt := 116) X dX9_choose_43 (by decide) h (fun h => ?_) (fun h => ?_)
    · exact g_sub (lv' := [(0, .ref (r 310)), (3, .long x9), (5, iv y10), (6, iv y11)]) [0, 1, 2, 3] rfl (hK15 x9 t13 h)
    · refine g_aload_n X dX9_choose_46 0 rfl ?_
      refine g_iload X dX9_choose_47 2 rfl ?_
      refine g_iload X dX9_choose_49 4 rfl ?_
      refine g_iload X dX9_choose_51 3 rfl ?_
      refine g_callOI (rest := []) X (fun u9 h9 => cp_X9_onward l E r N y10 x12 y11 t13 u9 h9) yy_X9_onward yi_X9_onward wdM_RX9_150 ⟨_, _, oH_310⟩ rfl rfl rfl (Nat.le_of_ble_eq_true rfl) dX9_choose_53 ⟨by decide, by decide⟩ ⟨rfl, rfl⟩ h (fun v18 t17 h => ?_)
      refine g_istore (lv' := [(8, iv v18), (0, .ref (r 310)), (3, .long x9), (5, iv y10), (6, iv y11), (7, iv x12)]) X dX9_choose_56 (by decide) rfl ?_
      refine g_iload X dX9_choose_58 0 rfl ?_
      refine g_join (J := fun jj => ∀ (t19 : St), jj  t19 = some z → gP p l e rm_f_X9_choose s m args below meth c E A 9 (MQ below ((gqI E (gW E r shH) z) A) args s mc ms A) (gW E r shH) 91 [(0, .ref (r 310)), (3, .long x9), (5, iv y10), (6, iv y11), (7, iv x12), (8, iv v18)] [] t19) h (fun  t19 h => ?_) (fun J20 hJ20 h => ?_)
      · refine g_lload_n X dX9_choose_91 1 rfl ?_
        refine g_iload X dX9_choose_92 5 rfl ?_
        refine g_join (J := fun jj => ∀ (j21 : Int64) (t22 : St), jj j21 t22 = some z → gP p l e rm_f_X9_choose s m args below meth c E A 9 (MQ below ((gqI E (gW E r shH) z) A) args s mc ms A) (gW E r shH) 108 [(0, .ref (r 310)), (5, iv y10), (6, iv y11), (7, iv x12)] [.long j21, .long x9] t22) h (fun j21 t22 h => ?_) (fun J23 hJ23 h => ?_)
        · refine g_lsub X dX9_choose_108 ?_
          refine g_lstore_n (lv' := [(3, .long (x9 - j21)), (0, .ref (r 310)), (5, iv y10), (6, iv y11), (7, iv x12)]) X dX9_choose_109 rfl (by decide) rfl ?_
          refine g_iinc (lv' := [(7, iv (x12 + 1)), (3, .long (x9 - j21)), (0, .ref (r 310)), (5, iv y10), (6, iv y11)]) X dX9_choose_110 (k := 4) rfl (by decide) rfl ?_
          refine g_goto (tgt := 37) X dX9_choose_113 (by decide) ?_
          exact g_sub (lv' := [(0, .ref (r 310)), (3, .long (x9 - j21)), (5, iv y10), (6, iv y11), (7, iv (x12 + 1))]) [2, 1, 3, 4, 0] rfl (ih (x9 - j21) (x12 + 1) t22 h)
        refine g_if_lt (tgt := 107) X dX9_choose_94 (by decide) h (fun h => ?_) (fun h => ?_)
        · refine g_lconst (v := 0) X dX9_choose_107 (by decide) ?_
          exact g_sub (lv' := [(0, .ref (r 310)), (5, iv y10), (6, iv y11), (7, iv x12)]) [0, 2, 3, 4] rfl (hJ23 (0 : Int64) t19 h)
        · refine g_aload_n X dX9_choose_97 0 rfl ?_
          refine g_getR X fH_X9_27_310 rfl dX9_choose_98 ?_
          refine g_iload X dX9_choose_101 5 rfl ?_
          refine g_lald X aH_434 dX9_choose_103 h (fun v24 h => ?_)
          refine g_goto (tgt := 108) X dX9_choose_104 (by decide) ?_
          exact g_sub (lv' := [(0, .ref (r 310)), (5, iv y10), (6, iv y11), (7, iv x12)]) [0, 2, 3, 4] rfl (hJ23 v24 t19 h)
      refine g_if_lt (tgt := 91) X dX9_choose_60 (by decide) h (fun h => ?_) (fun h => ?_)
      · exact g_sub (lv' := [(0, .ref (r 310)), (3, .long x9), (5, iv y10), (6, iv y11), (7, iv x12), (8, iv v18)]) [1, 2, 3, 4, 5, 0] rfl (hJ20 t17 h)
      · refine g_lload_n X dX9_choose_63 2 rfl ?_
        refine g_aload_n X dX9_choose_64 1 rfl ?_
        refine g_getR X fH_X9_27_310 rfl dX9_choose_65 ?_
        refine g_iload X dX9_choose_68 0 rfl ?_
        refine g_lald X aH_434 dX9_choose_70 h (fun v25 h => ?_)
        refine g_lcmp_ge (tgt := 91) X dX9_choose_71 dX9_choose_72 (by decide) h (fun h => ?_) (fun h => ?_)
        · exact g_sub (lv' := [(0, .ref (r 310)), (3, .long x9), (5, iv y10), (6, iv y11), (7, iv x12), (8, iv v18)]) [1, 2, 3, 4, 5, 0] rfl (hJ20 t17 h)
        · exact g_sub (lv' := [(0, .ref (r 310)), (3, .long x9), (6, iv y11), (7, iv x12), (8, iv v18)]) [1, 2, 4, 5, 0] rfl (hK14 x9 x12 v18 t17 h)
set_option maxHeartbeats 4000000 in
set_option maxRecDepth 100000 in
theorem t_f_X9_choose_L25 {p : Program} {l : Launch} {e : Env} {s : State} {m : MethodId} {args : Array Value} {below : List Frame} {meth : Method} {c : Code} {E : cE} {A : Nat → Prop} {r : Nat → Nat} {mc ms : Nat} {z : Int × St} {N : Nat} {K7 : (St → Option (Int × St))} (X : gX p s m meth c cX9_choose 9 (some .boolean) yX9_choose args E A) (hK7 : ∀ (t9 : St), K7 t9 = some z → gP p l e rm_f_X9_choose s m args below meth c E A 9 (MQ below ((gqI E (gW E r shH) z) A) args s mc ms A) (gW E r shH) 122 [(0, .ref (r 310))] [] t9) : ∀ (n9 : Nat) (x3 : Int64) (x4 : Int) (x5 : Int) (t6 : St), f_X9_choose_L25 N K7 n9 x3 x4 x5 t6 = some z → gP p l e rm_f_X9_choose s m args below meth c E A 9 (MQ below ((gqI E (gW E r shH) z) A) args s mc ms A) (gW E r shH) 25 [(0, .ref (r 310)), (3, .long x3), (5, iv x4), (6, iv x5)] [] t6 := by
  intro n9
  induction n9 with
  | zero => intro x3 x4 x5 t6 h; cases h
  | succ n9 ih =>
    intro x3 x4 x5 t6 h
    unfold f_X9_choose_L25 at h
    refine g_iload X dX9_choose_25 3 rfl ?_
    refine g_aload_n X dX9_choose_27 0 rfl ?_
    refine g_getI X fH_X9_39_310 rfl dX9_choose_28 h (fun v8 h => ?_)
    refine g_icmp_ge (tgt := 122) X dX9_choose_31 (by decide) h (fun h => ?_) (fun h => ?_)
    · exact g_sub (lv' := [(0, .ref (r 310))]) [0] rfl (hK7 t6 h)
    · refine g_iconst X dX9_choose_34 ?_
      refine g_istore (lv' := [(7, iv 0), (0, .ref (r 310)), (3, .long x3), (5, iv x4), (6, iv x5)]) X dX9_choose_35 (by decide) rfl ?_
      refine g_sub (lv' := [(0, .ref (r 310)), (3, .long x3), (5, iv x4), (6, iv x5), (7, iv 0)]) [1, 2, 3, 4, 0] rfl (t_f_X9_choose_L37 X (fun k26 k27 k28 t29 h => ?_) (fun k31 t32 h => ?_) N x3 0 t6 h)
      · refine g_aload_n X dX9_choose_75 0 rfl ?_
        refine g_getR X fH_X9_43_310 rfl dX9_choose_76 ?_
        refine g_iload X dX9_choose_79 2 rfl ?_
        refine g_iload X dX9_choose_81 3 rfl ?_
        refine g_iast X aH_438 dX9_choose_83 h (fun t30 h => ?_)
        refine g_iload X dX9_choose_84 4 rfl ?_
        refine g_istore (lv' := [(5, iv k28), (0, .ref (r 310)), (3, .long k26), (6, iv x5), (7, iv k27), (8, iv k28)]) X dX9_choose_86 (by decide) rfl ?_
        refine g_goto (tgt := 116) X dX9_choose_88 (by decide) ?_
        refine g_iinc (lv' := [(6, iv (x5 + 1)), (5, iv k28), (0, .ref (r 310)), (3, .long k26), (7, iv k27), (8, iv k28)]) X dX9_choose_116 (k := 3) rfl (by decide) rfl ?_
        refine g_goto (tgt := 25) X dX9_choose_119 (by decide) ?_
        exact g_sub (lv' := [(0, .ref (r 310)), (3, .long k26), (5, iv k28), (6, iv (x5 + 1))]) [2, 3, 1, 0] rfl (ih k26 k28 (x5 + 1) t30 h)
      · refine g_iinc (lv' := [(6, iv (x5 + 1)), (0, .ref (r 310)), (3, .long k31), (5, iv x4)]) X dX9_choose_116 (k := 3) rfl (by decide) rfl ?_
        refine g_goto (tgt := 25) X dX9_choose_119 (by decide) ?_
        exact g_sub (lv' := [(0, .ref (r 310)), (3, .long k31), (5, iv x4), (6, iv (x5 + 1))]) [1, 2, 3, 0] rfl (ih k31 x4 (x5 + 1) t32 h)
set_option maxHeartbeats 4000000 in
set_option maxRecDepth 100000 in
theorem b_f_X9_choose {p : Program} {l : Launch} {e : Env} {s : State} {m : MethodId} {args : Array Value} {below : List Frame} {meth : Method} {c : Code} {E : cE} {A : Nat → Prop} {r : Nat → Nat} {mc ms : Nat} {z : Int × St} {N : Nat} {a0 : Int64} {t : St} (X : gX p s m meth c cX9_choose 9 (some .boolean) yX9_choose args E A) (h : f_X9_choose N a0 t = some z) : gP p l e rm_f_X9_choose s m args below meth c E A 9 (MQ below ((gqI E (gW E r shH) z) A) args s mc ms A) (gW E r shH) 0 [(0, .ref (r 310)), (1, .long a0)] [] t := by
  unfold f_X9_choose at h
  refine g_lload_n X dX9_choose_0 1 rfl ?_
  refine g_lconst (v := 0) X dX9_choose_1 (by decide) ?_
  refine g_lcmp_lt (tgt := 15) X dX9_choose_2 dX9_choose_3 (by decide) h (fun h => ?_) (fun h => ?_)
  · refine g_iconst X dX9_choose_15 ?_
    exact g_zret X h dX9_choose_16
  · refine g_lload_n X dX9_choose_6 1 rfl ?_
    refine g_aload_n X dX9_choose_7 0 rfl ?_
    refine g_callOL (rest := [.long a0]) X (fun u9 h9 => cp_X9_countRows l E r N t u9 h9) yy_X9_countRows yi_X9_countRows wdM_RX9_163 ⟨_, _, oH_310⟩ rfl rfl rfl (Nat.le_of_ble_eq_true rfl) dX9_choose_8 ⟨by decide, by decide⟩ ⟨rfl, rfl⟩ h (fun v2 t1 h => ?_)
    refine g_lcmp_lt (tgt := 17) X dX9_choose_11 dX9_choose_12 (by decide) h (fun h => ?_) (fun h => ?_)
    · refine g_lload_n X dX9_choose_17 1 rfl ?_
      refine g_lstore_n (lv' := [(3, .long a0), (0, .ref (r 310)), (1, .long a0)]) X dX9_choose_18 rfl (by decide) rfl ?_
      refine g_iconst X dX9_choose_19 ?_
      refine g_istore (lv' := [(5, iv 0), (3, .long a0), (0, .ref (r 310)), (1, .long a0)]) X dX9_choose_20 (by decide) rfl ?_
      refine g_iconst X dX9_choose_22 ?_
      refine g_istore (lv' := [(6, iv 0), (5, iv 0), (3, .long a0), (0, .ref (r 310)), (1, .long a0)]) X dX9_choose_23 (by decide) rfl ?_
      refine g_sub (lv' := [(0, .ref (r 310)), (3, .long a0), (5, iv 0), (6, iv 0)]) [3, 2, 1, 0] rfl (t_f_X9_choose_L25 X (fun t33 h => ?_) N a0 0 0 t1 h)
      · refine g_aload_n X dX9_choose_122 0 rfl ?_
        refine g_iconst X dX9_choose_123 ?_
        refine g_putZ X fH_X9_58_310w rfl dX9_choose_124 h (fun t34 h => ?_)
        refine g_aload_n X dX9_choose_127 0 rfl ?_
        refine g_iconst X dX9_choose_128 ?_
        refine g_putI X fH_X9_62_310w rfl dX9_choose_129 h (fun t35 h => ?_)
        refine g_iconst X dX9_choose_132 ?_
        exact g_zret X h dX9_choose_133
    · refine g_iconst X dX9_choose_15 ?_
      exact g_zret X h dX9_choose_16
set_option maxHeartbeats 4000000 in
set_option maxRecDepth 100000 in
theorem cp_X9_choose (l : Launch) (E : cE) (r : Nat → Nat) (N : Nat) (a0 : Int64) (t : St) (z : Int × St) (h : f_X9_choose N a0 t = some z) : cM l E yX9_choose cX9_choose 9 (some .boolean) rm_f_X9_choose [.ref (r 310), .long a0] (gW E r shH t) (gqI E (gW E r shH) z) := by
  refine g_of (w := gW E r shH) (by decide) (Nat.le_of_ble_eq_true rfl) ?_
  intro p e s m below meth c A X
  exact g_sub (lv' := [(0, .ref (r 310)), (1, .long a0)]) [0, 1] rfl (b_f_X9_choose X h)
theorem yy_X9_choose : cY yX9_choose cX9_choose 9 (some .boolean) 1 := ⟨wdK_X9_choose, wdZ_RX9, by decide +kernel⟩
theorem yi_X9_choose : cYi yX9_choose := ⟨wdN_X9_choose, wdS_X9_choose⟩
theorem dX9_chooseCheapest_0 : decode cX9_chooseCheapest 0 = .ok (.aload_n 0, 1) := by decide +kernel
theorem dX9_chooseCheapest_1 : decode cX9_chooseCheapest 1 = .ok (.getfield 39, 3) := by decide +kernel
theorem dX9_chooseCheapest_4 : decode cX9_chooseCheapest 4 = .ok (.ifCond .ge 5, 3) := by decide +kernel
theorem dX9_chooseCheapest_7 : decode cX9_chooseCheapest 7 = .ok (.iconst (-1), 1) := by decide +kernel
theorem dX9_chooseCheapest_8 : decode cX9_chooseCheapest 8 = .ok (.ireturn, 1) := by decide +kernel
theorem dX9_chooseCheapest_9 : decode cX9_chooseCheapest 9 = .ok (.iconst 0, 1) := by decide +kernel
theorem dX9_chooseCheapest_10 : decode cX9_chooseCheapest 10 = .ok (.istore_n 1, 1) := by decide +kernel
theorem dX9_chooseCheapest_11 : decode cX9_chooseCheapest 11 = .ok (.iconst 0, 1) := by decide +kernel
theorem dX9_chooseCheapest_12 : decode cX9_chooseCheapest 12 = .ok (.istore_n 2, 1) := by decide +kernel
theorem dX9_chooseCheapest_13 : decode cX9_chooseCheapest 13 = .ok (.iload_n 2, 1) := by decide +kernel
theorem dX9_chooseCheapest_14 : decode cX9_chooseCheapest 14 = .ok (.aload_n 0, 1) := by decide +kernel
theorem dX9_chooseCheapest_15 : decode cX9_chooseCheapest 15 = .ok (.getfield 39, 3) := by decide +kernel
theorem dX9_chooseCheapest_18 : decode cX9_chooseCheapest 18 = .ok (.if_icmp .ge 78, 3) := by decide +kernel
theorem dX9_chooseCheapest_21 : decode cX9_chooseCheapest 21 = .ok (.iconst 0, 1) := by decide +kernel
theorem dX9_chooseCheapest_22 : decode cX9_chooseCheapest 22 = .ok (.istore_n 3, 1) := by decide +kernel
theorem dX9_chooseCheapest_23 : decode cX9_chooseCheapest 23 = .ok (.iload_n 3, 1) := by decide +kernel
theorem dX9_chooseCheapest_24 : decode cX9_chooseCheapest 24 = .ok (.aload_n 0, 1) := by decide +kernel
theorem dX9_chooseCheapest_25 : decode cX9_chooseCheapest 25 = .ok (.getfield 82, 3) := by decide +kernel
theorem dX9_chooseCheapest_28 : decode cX9_chooseCheapest 28 = .ok (.if_icmp .ge 62, 3) := by decide +kernel
theorem dX9_chooseCheapest_31 : decode cX9_chooseCheapest 31 = .ok (.aload_n 0, 1) := by decide +kernel
theorem dX9_chooseCheapest_32 : decode cX9_chooseCheapest 32 = .ok (.iload_n 1, 1) := by decide +kernel
theorem dX9_chooseCheapest_33 : decode cX9_chooseCheapest 33 = .ok (.iload_n 3, 1) := by decide +kernel
theorem dX9_chooseCheapest_34 : decode cX9_chooseCheapest 34 = .ok (.iload_n 2, 1) := by decide +kernel
theorem dX9_chooseCheapest_35 : decode cX9_chooseCheapest 35 = .ok (.invokevirtual 150, 3) := by decide +kernel
theorem dX9_chooseCheapest_38 : decode cX9_chooseCheapest 38 = .ok (.istore 4, 2) := by decide +kernel
theorem dX9_chooseCheapest_40 : decode cX9_chooseCheapest 40 = .ok (.iload 4, 2) := by decide +kernel
theorem dX9_chooseCheapest_42 : decode cX9_chooseCheapest 42 = .ok (.ifCond .lt 42, 3) := by decide +kernel
theorem dX9_chooseCheapest_45 : decode cX9_chooseCheapest 45 = .ok (.aload_n 0, 1) := by decide +kernel
theorem dX9_chooseCheapest_46 : decode cX9_chooseCheapest 46 = .ok (.getfield 46, 3) := by decide +kernel
theorem dX9_chooseCheapest_49 : decode cX9_chooseCheapest 49 = .ok (.getfield 154, 3) := by decide +kernel
theorem dX9_chooseCheapest_52 : decode cX9_chooseCheapest 52 = .ok (.iload_n 3, 1) := by decide +kernel
theorem dX9_chooseCheapest_53 : decode cX9_chooseCheapest 53 = .ok (.iaload, 1) := by decide +kernel
theorem dX9_chooseCheapest_54 : decode cX9_chooseCheapest 54 = .ok (.aload_n 0, 1) := by decide +kernel
theorem dX9_chooseCheapest_55 : decode cX9_chooseCheapest 55 = .ok (.getfield 30, 3) := by decide +kernel
theorem dX9_chooseCheapest_58 : decode cX9_chooseCheapest 58 = .ok (.iload 4, 2) := by decide +kernel
theorem dX9_chooseCheapest_60 : decode cX9_chooseCheapest 60 = .ok (.iaload, 1) := by decide +kernel
theorem dX9_chooseCheapest_61 : decode cX9_chooseCheapest 61 = .ok (.iadd, 1) := by decide +kernel
theorem dX9_chooseCheapest_62 : decode cX9_chooseCheapest 62 = .ok (.aload_n 0, 1) := by decide +kernel
theorem dX9_chooseCheapest_63 : decode cX9_chooseCheapest 63 = .ok (.getfield 30, 3) := by decide +kernel
theorem dX9_chooseCheapest_66 : decode cX9_chooseCheapest 66 = .ok (.iload_n 1, 1) := by decide +kernel
theorem dX9_chooseCheapest_67 : decode cX9_chooseCheapest 67 = .ok (.iaload, 1) := by decide +kernel
theorem dX9_chooseCheapest_68 : decode cX9_chooseCheapest 68 = .ok (.if_icmp .ne 16, 3) := by decide +kernel
theorem dX9_chooseCheapest_71 : decode cX9_chooseCheapest 71 = .ok (.aload_n 0, 1) := by decide +kernel
theorem dX9_chooseCheapest_72 : decode cX9_chooseCheapest 72 = .ok (.getfield 43, 3) := by decide +kernel
theorem dX9_chooseCheapest_75 : decode cX9_chooseCheapest 75 = .ok (.iload_n 2, 1) := by decide +kernel
theorem dX9_chooseCheapest_76 : decode cX9_chooseCheapest 76 = .ok (.iload_n 3, 1) := by decide +kernel
theorem dX9_chooseCheapest_77 : decode cX9_chooseCheapest 77 = .ok (.iastore, 1) := by decide +kernel
theorem dX9_chooseCheapest_78 : decode cX9_chooseCheapest 78 = .ok (.iload 4, 2) := by decide +kernel
theorem dX9_chooseCheapest_80 : decode cX9_chooseCheapest 80 = .ok (.istore_n 1, 1) := by decide +kernel
theorem dX9_chooseCheapest_81 : decode cX9_chooseCheapest 81 = .ok (.goto 9, 3) := by decide +kernel
theorem dX9_chooseCheapest_84 : decode cX9_chooseCheapest 84 = .ok (.iinc 3 1, 3) := by decide +kernel
theorem dX9_chooseCheapest_87 : decode cX9_chooseCheapest 87 = .ok (.goto (-64), 3) := by decide +kernel
theorem dX9_chooseCheapest_90 : decode cX9_chooseCheapest 90 = .ok (.iinc 2 1, 3) := by decide +kernel
theorem dX9_chooseCheapest_93 : decode cX9_chooseCheapest 93 = .ok (.goto (-80), 3) := by decide +kernel
theorem dX9_chooseCheapest_96 : decode cX9_chooseCheapest 96 = .ok (.aload_n 0, 1) := by decide +kernel
theorem dX9_chooseCheapest_97 : decode cX9_chooseCheapest 97 = .ok (.iconst 1, 1) := by decide +kernel
theorem dX9_chooseCheapest_98 : decode cX9_chooseCheapest 98 = .ok (.putfield 58, 3) := by decide +kernel
theorem dX9_chooseCheapest_101 : decode cX9_chooseCheapest 101 = .ok (.aload_n 0, 1) := by decide +kernel
theorem dX9_chooseCheapest_102 : decode cX9_chooseCheapest 102 = .ok (.iconst 0, 1) := by decide +kernel
theorem dX9_chooseCheapest_103 : decode cX9_chooseCheapest 103 = .ok (.putfield 62, 3) := by decide +kernel
theorem dX9_chooseCheapest_106 : decode cX9_chooseCheapest 106 = .ok (.aload_n 0, 1) := by decide +kernel
theorem dX9_chooseCheapest_107 : decode cX9_chooseCheapest 107 = .ok (.getfield 30, 3) := by decide +kernel
theorem dX9_chooseCheapest_110 : decode cX9_chooseCheapest 110 = .ok (.iconst 0, 1) := by decide +kernel
theorem dX9_chooseCheapest_111 : decode cX9_chooseCheapest 111 = .ok (.iaload, 1) := by decide +kernel
theorem dX9_chooseCheapest_112 : decode cX9_chooseCheapest 112 = .ok (.ireturn, 1) := by decide +kernel
abbrev rm_f_X9_chooseCheapest : Room := { frames := 1, cells := 0, slots := 0, locals := 25 }
def f_X9_chooseCheapest_L23 (N : Nat) (K11 : (Int → Int → St → Option (Int × St))) (K12 : (St → Option (Int × St))) (y7 : Int) (y8 : Int) : Nat → Int → St → Option (Int × St)
  | 0, _, _ => none
  | n9 + 1, x9, t10 =>
    lt1 (t10.1 310 12) fun v13 =>
    cmpI x9 v13 (if x9 < v13 then (bdI (f_X9_onward N y7 x9 y8 t10) fun v15 t14 =>
    jn1 (fun (t16 : St) => f_X9_chooseCheapest_L23 N K11 K12 y7 y8 n9 (x9 + 1) t16) fun J17 =>
    cmpI v15 0 (if v15 < 0 then (J17 t14)
    else (ixI x9 32 (lt1 (t14.1 362 x9.toNat) fun v18 =>
    ixI v15 2000 (lt1 (t14.1 435 v15.toNat) fun v19 =>
    ixI y7 2000 (lt1 (t14.1 435 y7.toNat) fun v20 =>
    cmpI (v18 + v19) v20 (if (v18 + v19) = v20 then (K11 x9 v15 t14)
    else (J17 t14))))))))
    else (K12 t10))
def f_X9_chooseCheapest_L13 (N : Nat) (K5 : (St → Option (Int × St))) : Nat → Int → Int → St → Option (Int × St)
  | 0, _, _, _ => none
  | n9 + 1, x2, x3, t4 =>
    lt1 (t4.1 310 14) fun v6 =>
    cmpI x3 v6 (if x3 < v6 then (f_X9_chooseCheapest_L23 N (fun (k21 : Int) (k22 : Int) (t23 : St) => ixI x3 12 (lt1 (pI t23 438 x3.toNat k21) fun t24 =>
    f_X9_chooseCheapest_L13 N K5 n9 k22 (x3 + 1) t24)) (fun (t25 : St) => f_X9_chooseCheapest_L13 N K5 n9 x2 (x3 + 1) t25) x2 x3 N 0 t4)
    else (K5 t4))
def f_X9_chooseCheapest (N : Nat) (t : St) : Option (Int × St) :=
    lt1 (t.1 310 14) fun v1 =>
    cmpI v1 0 (if v1 < 0 then (some ((-1), t))
    else (f_X9_chooseCheapest_L13 N (fun (t26 : St) => boI 1 (lt1 (pI t26 310 16 1) fun t27 =>
    lt1 (pI t27 310 17 0) fun t28 =>
    ixI 0 2000 (lt1 (t28.1 435 (0 : Int).toNat) fun v29 =>
    some (v29, t28)))) N 0 0 t))
set_option maxHeartbeats 4000000 in
set_option maxRecDepth 100000 in
theorem t_f_X9_chooseCheapest_L23 {p : Program} {l : Launch} {e : Env} {s : State} {m : MethodId} {args : Array Value} {below : List Frame} {meth : Method} {c : Code} {E : cE} {A : Nat → Prop} {r : Nat → Nat} {mc ms : Nat} {z : Int × St} {N : Nat} {K11 : (Int → Int → St → Option (Int × St))} {K12 : (St → Option (Int × St))} {y7 : Int} {y8 : Int} (X : gX p s m meth c cX9_chooseCheapest 5 (some .int) yX9_chooseCheapest args E A) (hK11 : ∀ (q3 : Int) (q4 : Int) (t9 : St), K11 q3 q4 t9 = some z → gP p l e rm_f_X9_chooseCheapest s m args below meth c E A 5 (MQ below ((gqI E (gW E r shH) z) A) args s mc ms A) (gW E r shH) 71 [(0, .ref (r 310)), (2, iv y8), (3, iv q3), (4, iv q4)] [] t9) (hK12 : ∀ (t9 : St), K12 t9 = some z → gP p l e rm_f_X9_chooseCheapest s m args below meth c E A 5 (MQ below ((gqI E (gW E r shH) z) A) args s mc ms A) (gW E r shH) 90 [(0, .ref (r 310)), (1, iv y7), (2, iv y8)] [] t9) : ∀ (n9 : Nat) (x9 : Int) (t10 : St), f_X9_chooseCheapest_L23 N K11 K12 y7 y8 n9 x9 t10 = some z → gP p l e rm_f_X9_chooseCheapest s m args below meth c E A 5 (MQ below ((gqI E (gW E r shH) z) A) args s mc ms A) (gW E r shH) 23 [(0, .ref (r 310)), (1, iv y7), (2, iv y8), (3, iv x9)] [] t10 := by
  intro n9
  induction n9 with
  | zero => intro x9 t10 h; cases h
  | succ n9 ih =>
    intro x9 t10 h
    unfold f_X9_chooseCheapest_L23 at h
    refine g_iload_n X dX9_chooseCheapest_23 3 rfl ?_
    refine g_aload_n X dX9_chooseCheapest_24 0 rfl ?_
    refine g_getI X fH_X9_82_310 rfl dX9_chooseCheapest_25 h (fun v13 h => ?_)
    refine g_icmp_ge (tgt := 90) X dX9_chooseCheapest_28 (by decide) h (fun h => ?_) (fun h => ?_)
    · exact g_sub (lv' := [(0, .ref (r 310)), (1, iv y7), (2, iv y8)]) [0, 1, 2] rfl (hK12 t10 h)
    · refine g_aload_n X dX9_chooseCheapest_31 0 rfl ?_
      refine g_iload_n X dX9_chooseCheapest_32 1 rfl ?_
      refine g_iload_n X dX9_chooseCheapest_33 3 rfl ?_
      refine g_iload_n X dX9_chooseCheapest_34 2 rfl ?_
      refine g_callOI (rest := []) X (fun u9 h9 => cp_X9_onward l E r N y7 x9 y8 t10 u9 h9) yy_X9_onward yi_X9_onward wdM_RX9_150 ⟨_, _, oH_310⟩ rfl rfl rfl (Nat.le_of_ble_eq_true rfl) dX9_chooseCheapest_35 ⟨by decide, by decide⟩ ⟨rfl, rfl⟩ h (fun v15 t14 h => ?_)
      refine g_istore (lv' := [(4, iv v15), (0, .ref (r 310)), (1, iv y7), (2, iv y8), (3, iv x9)]) X dX9_chooseCheapest_38 (by decide) rfl ?_
      refine g_iload X dX9_chooseCheapest_40 0 rfl ?_
      refine g_join (J := fun jj => ∀ (t16 : St), jj  t16 = some z → gP p l e rm_f_X9_chooseCheapest s m args below meth c E A 5 (MQ below ((gqI E (gW E r shH) z) A) args s mc ms A) (gW E r shH) 84 [(0, .ref (r 310)), (1, iv y7), (2, iv y8), (3, iv x9)] [] t16) h (fun  t16 h => ?_) (fun J17 hJ17 h => ?_)
      · refine g_iinc (lv' := [(3, iv (x9 + 1)), (0, .ref (r 310)), (1, iv y7), (2, iv y8)]) X dX9_chooseCheapest_84 (k := 3) rfl (by decide) rfl ?_
        refine g_goto (tgt := 23) X dX9_chooseCheapest_87 (by decide) ?_
        exact g_sub (lv' := [(0, .ref (r 310)), (1, iv y7), (2, iv y8), (3, iv (x9 + 1))]) [1, 2, 3, 0] rfl (ih (x9 + 1) t16 h)
      refine g_if_lt (tgt := 84) X dX9_chooseCheapest_42 (by decide) h (fun h => ?_) (fun h => ?_)
      · exact g_sub (lv' := [(0, .ref (r 310)), (1, iv y7), (2, iv y8), (3, iv x9)]) [1, 2, 3, 4] rfl (hJ17 t14 h)
      · refine g_aload_n X dX9_chooseCheapest_45 1 rfl ?_
        refine g_getR X fH_X9_46_310 rfl dX9_chooseCheapest_46 ?_
        refine g_getR X fH_X9_154_302 rfl dX9_chooseCheapest_49 ?_
        refine g_iload_n X dX9_chooseCheapest_52 4 rfl ?_
        refine g_iald X aH_362 dX9_chooseCheapest_53 h (fun v18 h => ?_)
        refine g_aload_n X dX9_chooseCheapest_54 1 rfl ?_
        refine g_getR X fH_X9_30_310 rfl dX9_chooseCheapest_55 ?_
        refine g_iload X dX9_chooseCheapest_58 0 rfl ?_
        refine g_iald X aH_435 dX9_chooseCheapest_60 h (fun v19 h => ?_)
        refine g_iadd X dX9_chooseCheapest_61 ?_
        refine g_aload_n X dX9_chooseCheapest_62 1 rfl ?_
        refine g_getR X fH_X9_30_310 rfl dX9_chooseCheapest_63 ?_
        refine g_iload_n X dX9_chooseCheapest_66 2 rfl ?_
        refine g_iald X aH_435 dX9_chooseCheapest_67 h (fun v20 h => ?_)
        refine g_icmp_ne (tgt := 84) X dX9_chooseCheapest_68 (by decide) h (fun h => ?_) (fun h => ?_)
        · exact g_sub (lv' := [(0, .ref (r 310)), (1, iv y7), (2, iv y8), (3, iv x9)]) [1, 2, 3, 4] rfl (hJ17 t14 h)
        · exact g_sub (lv' := [(0, .ref (r 310)), (2, iv y8), (3, iv x9), (4, iv v15)]) [1, 3, 4, 0] rfl (hK11 x9 v15 t14 h)
set_option maxHeartbeats 4000000 in
set_option maxRecDepth 100000 in
theorem t_f_X9_chooseCheapest_L13 {p : Program} {l : Launch} {e : Env} {s : State} {m : MethodId} {args : Array Value} {below : List Frame} {meth : Method} {c : Code} {E : cE} {A : Nat → Prop} {r : Nat → Nat} {mc ms : Nat} {z : Int × St} {N : Nat} {K5 : (St → Option (Int × St))} (X : gX p s m meth c cX9_chooseCheapest 5 (some .int) yX9_chooseCheapest args E A) (hK5 : ∀ (t9 : St), K5 t9 = some z → gP p l e rm_f_X9_chooseCheapest s m args below meth c E A 5 (MQ below ((gqI E (gW E r shH) z) A) args s mc ms A) (gW E r shH) 96 [(0, .ref (r 310))] [] t9) : ∀ (n9 : Nat) (x2 : Int) (x3 : Int) (t4 : St), f_X9_chooseCheapest_L13 N K5 n9 x2 x3 t4 = some z → gP p l e rm_f_X9_chooseCheapest s m args below meth c E A 5 (MQ below ((gqI E (gW E r shH) z) A) args s mc ms A) (gW E r shH) 13 [(0, .ref (r 310)), (1, iv x2), (2, iv x3)] [] t4 := by
  intro n9
  induction n9 with
  | zero => intro x2 x3 t4 h; cases h
  | succ n9 ih =>
    intro x2 x3 t4 h
    unfold f_X9_chooseCheapest_L13 at h
    refine g_iload_n X dX9_chooseCheapest_13 2 rfl ?_
    refine g_aload_n X dX9_chooseCheapest_14 0 rfl ?_
    refine g_getI X fH_X9_39_310 rfl dX9_chooseCheapest_15 h (fun v6 h => ?_)
    refine g_icmp_ge (tgt := 96) X dX9_chooseCheapest_18 (by decide) h (fun h => ?_) (fun h => ?_)
    · exact g_sub (lv' := [(0, .ref (r 310))]) [0] rfl (hK5 t4 h)
    · refine g_iconst X dX9_chooseCheapest_21 ?_
      refine g_istore_n (lv' := [(3, iv 0), (0, .ref (r 310)), (1, iv x2), (2, iv x3)]) X dX9_chooseCheapest_22 rfl (by decide) rfl ?_
      refine g_sub (lv' := [(0, .ref (r 310)), (1, iv x2), (2, iv x3), (3, iv 0)]) [1, 2, 3, 0] rfl (t_f_X9_chooseCheapest_L23 X (fun k21 k22 t23 h => ?_) (fun t25 h => ?_) N 0 t4 h)
      · refine g_aload_n X dX9_chooseCheapest_71 0 rfl ?_
        refine g_getR X fH_X9_43_310 rfl dX9_chooseCheapest_72 ?_
        refine g_iload_n X dX9_chooseCheapest_75 1 rfl ?_
        refine g_iload_n X dX9_chooseCheapest_76 2 rfl ?_
        refine g_iast X aH_438 dX9_chooseCheapest_77 h (fun t24 h => ?_)
        refine g_iload X dX9_chooseCheapest_78 3 rfl ?_
        refine g_istore_n (lv' := [(1, iv k22), (0, .ref (r 310)), (2, iv x3), (3, iv k21), (4, iv k22)]) X dX9_chooseCheapest_80 rfl (by decide) rfl ?_
        refine g_goto (tgt := 90) X dX9_chooseCheapest_81 (by decide) ?_
        refine g_iinc (lv' := [(2, iv (x3 + 1)), (1, iv k22), (0, .ref (r 310)), (3, iv k21), (4, iv k22)]) X dX9_chooseCheapest_90 (k := 2) rfl (by decide) rfl ?_
        refine g_goto (tgt := 13) X dX9_chooseCheapest_93 (by decide) ?_
        exact g_sub (lv' := [(0, .ref (r 310)), (1, iv k22), (2, iv (x3 + 1))]) [2, 1, 0] rfl (ih k22 (x3 + 1) t24 h)
      · refine g_iinc (lv' := [(2, iv (x3 + 1)), (0, .ref (r 310)), (1, iv x2)]) X dX9_chooseCheapest_90 (k := 2) rfl (by decide) rfl ?_
        refine g_goto (tgt := 13) X dX9_chooseCheapest_93 (by decide) ?_
        exact g_sub (lv' := [(0, .ref (r 310)), (1, iv x2), (2, iv (x3 + 1))]) [1, 2, 0] rfl (ih x2 (x3 + 1) t25 h)
set_option maxHeartbeats 4000000 in
set_option maxRecDepth 100000 in
theorem b_f_X9_chooseCheapest {p : Program} {l : Launch} {e : Env} {s : State} {m : MethodId} {args : Array Value} {below : List Frame} {meth : Method} {c : Code} {E : cE} {A : Nat → Prop} {r : Nat → Nat} {mc ms : Nat} {z : Int × St} {N : Nat} {t : St} (X : gX p s m meth c cX9_chooseCheapest 5 (some .int) yX9_chooseCheapest args E A) (h : f_X9_chooseCheapest N t = some z) : gP p l e rm_f_X9_chooseCheapest s m args below meth c E A 5 (MQ below ((gqI E (gW E r shH) z) A) args s mc ms A) (gW E r shH) 0 [(0, .ref (r 310))] [] t := by
  unfold f_X9_chooseCheapest at h
  refine g_aload_n X dX9_chooseCheapest_0 0 rfl ?_
  refine g_getI X fH_X9_39_310 rfl dX9_chooseCheapest_1 h (fun v1 h => ?_)
  refine g_if_ge (tgt := 9) X dX9_chooseCheapest_4 (by decide) h (fun h => ?_) (fun h => ?_)
  · refine g_iconst X dX9_chooseCheapest_9 ?_
    refine g_istore_n (lv' := [(1, iv 0), (0, .ref (r 310))]) X dX9_chooseCheapest_10 rfl (by decide) rfl ?_
    refine g_iconst X dX9_chooseCheapest_11 ?_
    refine g_istore_n (lv' := [(2, iv 0), (1, iv 0), (0, .ref (r 310))]) X dX9_chooseCheapest_12 rfl (by decide) rfl ?_
    refine g_sub (lv' := [(0, .ref (r 310)), (1, iv 0), (2, iv 0)]) [2, 1, 0] rfl (t_f_X9_chooseCheapest_L13 X (fun t26 h => ?_) N 0 0 t h)
    · refine g_aload_n X dX9_chooseCheapest_96 0 rfl ?_
      refine g_iconst X dX9_chooseCheapest_97 ?_
      refine g_putZ X fH_X9_58_310w rfl dX9_chooseCheapest_98 h (fun t27 h => ?_)
      refine g_aload_n X dX9_chooseCheapest_101 0 rfl ?_
      refine g_iconst X dX9_chooseCheapest_102 ?_
      refine g_putI X fH_X9_62_310w rfl dX9_chooseCheapest_103 h (fun t28 h => ?_)
      refine g_aload_n X dX9_chooseCheapest_106 0 rfl ?_
      refine g_getR X fH_X9_30_310 rfl dX9_chooseCheapest_107 ?_
      refine g_iconst X dX9_chooseCheapest_110 ?_
      refine g_iald X aH_435 dX9_chooseCheapest_111 h (fun v29 h => ?_)
      exact g_iret X h dX9_chooseCheapest_112
  · refine g_iconst X dX9_chooseCheapest_7 ?_
    exact g_iret X h dX9_chooseCheapest_8
set_option maxHeartbeats 4000000 in
set_option maxRecDepth 100000 in
theorem cp_X9_chooseCheapest (l : Launch) (E : cE) (r : Nat → Nat) (N : Nat) (t : St) (z : Int × St) (h : f_X9_chooseCheapest N t = some z) : cM l E yX9_chooseCheapest cX9_chooseCheapest 5 (some .int) rm_f_X9_chooseCheapest [.ref (r 310)] (gW E r shH t) (gqI E (gW E r shH) z) := by
  refine g_of (w := gW E r shH) (by decide) (Nat.le_of_ble_eq_true rfl) ?_
  intro p e s m below meth c A X
  exact g_sub (lv' := [(0, .ref (r 310))]) [0] rfl (b_f_X9_chooseCheapest X h)
theorem yy_X9_chooseCheapest : cY yX9_chooseCheapest cX9_chooseCheapest 5 (some .int) 0 := ⟨wdK_X9_chooseCheapest, wdZ_RX9, by decide +kernel⟩
theorem yi_X9_chooseCheapest : cYi yX9_chooseCheapest := ⟨wdN_X9_chooseCheapest, wdS_X9_chooseCheapest⟩
theorem dX9_chosenStep_0 : decode cX9_chosenStep 0 = .ok (.aload_n 0, 1) := by decide +kernel
theorem dX9_chosenStep_1 : decode cX9_chosenStep 1 = .ok (.getfield 58, 3) := by decide +kernel
theorem dX9_chosenStep_4 : decode cX9_chosenStep 4 = .ok (.ifCond .eq 24, 3) := by decide +kernel
theorem dX9_chosenStep_7 : decode cX9_chosenStep 7 = .ok (.iload_n 1, 1) := by decide +kernel
theorem dX9_chosenStep_8 : decode cX9_chosenStep 8 = .ok (.ifCond .lt 20, 3) := by decide +kernel
theorem dX9_chosenStep_11 : decode cX9_chosenStep 11 = .ok (.iload_n 1, 1) := by decide +kernel
theorem dX9_chosenStep_12 : decode cX9_chosenStep 12 = .ok (.aload_n 0, 1) := by decide +kernel
theorem dX9_chosenStep_13 : decode cX9_chosenStep 13 = .ok (.getfield 39, 3) := by decide +kernel
theorem dX9_chosenStep_16 : decode cX9_chosenStep 16 = .ok (.if_icmp .ge 12, 3) := by decide +kernel
theorem dX9_chosenStep_19 : decode cX9_chosenStep 19 = .ok (.aload_n 0, 1) := by decide +kernel
theorem dX9_chosenStep_20 : decode cX9_chosenStep 20 = .ok (.getfield 43, 3) := by decide +kernel
theorem dX9_chosenStep_23 : decode cX9_chosenStep 23 = .ok (.iload_n 1, 1) := by decide +kernel
theorem dX9_chosenStep_24 : decode cX9_chosenStep 24 = .ok (.iaload, 1) := by decide +kernel
theorem dX9_chosenStep_25 : decode cX9_chosenStep 25 = .ok (.goto 4, 3) := by decide +kernel
theorem dX9_chosenStep_28 : decode cX9_chosenStep 28 = .ok (.iconst (-1), 1) := by decide +kernel
theorem dX9_chosenStep_29 : decode cX9_chosenStep 29 = .ok (.ireturn, 1) := by decide +kernel
abbrev rm_f_X9_chosenStep : Room := { frames := 0, cells := 0, slots := 0, locals := 0 }
def f_X9_chosenStep (N : Nat) (a0 : Int) (t : St) : Option (Int × St) :=
    lt1 (t.1 310 16) fun v1 =>
    cmpI v1 0 (if v1 = 0 then (some ((-1), t))
    else (cmpI a0 0 (if a0 < 0 then (some ((-1), t))
    else (lt1 (t.1 310 14) fun v2 =>
    cmpI a0 v2 (if a0 < v2 then (ixI a0 12 (lt1 (t.1 438 a0.toNat) fun v3 =>
    some (v3, t)))
    else (some ((-1), t)))))))
set_option maxHeartbeats 4000000 in
set_option maxRecDepth 100000 in
theorem b_f_X9_chosenStep {p : Program} {l : Launch} {e : Env} {s : State} {m : MethodId} {args : Array Value} {below : List Frame} {meth : Method} {c : Code} {E : cE} {A : Nat → Prop} {r : Nat → Nat} {mc ms : Nat} {z : Int × St} {N : Nat} {a0 : Int} {t : St} (X : gX p s m meth c cX9_chosenStep 2 (some .int) yX9_chosenStep args E A) (h : f_X9_chosenStep N a0 t = some z) : gP p l e rm_f_X9_chosenStep s m args below meth c E A 2 (MQ below ((gqI E (gW E r shH) z) A) args s mc ms A) (gW E r shH) 0 [(0, .ref (r 310)), (1, iv a0)] [] t := by
  unfold f_X9_chosenStep at h
  refine g_aload_n X dX9_chosenStep_0 0 rfl ?_
  refine g_getI X fH_X9_58_310 rfl dX9_chosenStep_1 h (fun v1 h => ?_)
  refine g_if_eq (tgt := 28) X dX9_chosenStep_4 (by decide) h (fun h => ?_) (fun h => ?_)
  · refine g_iconst X dX9_chosenStep_28 ?_
    exact g_iret X h dX9_chosenStep_29
  · refine g_iload_n X dX9_chosenStep_7 1 rfl ?_
    refine g_if_lt (tgt := 28) X dX9_chosenStep_8 (by decide) h (fun h => ?_) (fun h => ?_)
    · refine g_iconst X dX9_chosenStep_28 ?_
      exact g_iret X h dX9_chosenStep_29
    · refine g_iload_n X dX9_chosenStep_11 1 rfl ?_
      refine g_aload_n X dX9_chosenStep_12 0 rfl ?_
      refine g_getI X fH_X9_39_310 rfl dX9_chosenStep_13 h (fun v2 h => ?_)
      refine g_icmp_ge (tgt := 28) X dX9_chosenStep_16 (by decide) h (fun h => ?_) (fun h => ?_)
      · refine g_iconst X dX9_chosenStep_28 ?_
        exact g_iret X h dX9_chosenStep_29
      · refine g_aload_n X dX9_chosenStep_19 0 rfl ?_
        refine g_getR X fH_X9_43_310 rfl dX9_chosenStep_20 ?_
        refine g_iload_n X dX9_chosenStep_23 1 rfl ?_
        refine g_iald X aH_438 dX9_chosenStep_24 h (fun v3 h => ?_)
        refine g_goto (tgt := 29) X dX9_chosenStep_25 (by decide) ?_
        exact g_iret X h dX9_chosenStep_29
set_option maxHeartbeats 4000000 in
set_option maxRecDepth 100000 in
theorem cp_X9_chosenStep (l : Launch) (E : cE) (r : Nat → Nat) (N : Nat) (a0 : Int) (t : St) (z : Int × St) (h : f_X9_chosenStep N a0 t = some z) : cM l E yX9_chosenStep cX9_chosenStep 2 (some .int) rm_f_X9_chosenStep [.ref (r 310), iv a0] (gW E r shH t) (gqI E (gW E r shH) z) := by
  refine g_of (w := gW E r shH) (by decide) (Nat.le_of_ble_eq_true rfl) ?_
  intro p e s m below meth c A X
  exact g_sub (lv' := [(0, .ref (r 310)), (1, iv a0)]) [0, 1] rfl (b_f_X9_chosenStep X h)
theorem yy_X9_chosenStep : cY yX9_chosenStep cX9_chosenStep 2 (some .int) 1 := ⟨wdK_X9_chosenStep, wdZ_RX9, by decide +kernel⟩
theorem yi_X9_chosenStep : cYi yX9_chosenStep := ⟨wdN_X9_chosenStep, wdS_X9_chosenStep⟩
abbrev rm_f_X10_hasRoom : Room := { frames := 0, cells := 0, slots := 0, locals := 0 }
def f_X10_hasRoom (N : Nat) (a0 : Int) (t : St) : Option (Int × St) :=
    lt1 (t.1 301 1) fun v1 =>
    cmpI (v1 + a0) 4096 (if 4096 < (v1 + a0) then (boI 0 (some (0, t)))
    else (boI 1 (some (1, t))))
set_option maxHeartbeats 4000000 in
set_option maxRecDepth 100000 in
theorem b_f_X10_hasRoom {p : Program} {l : Launch} {e : Env} {s : State} {m : MethodId} {args : Array Value} {below : List Frame} {meth : Method} {c : Code} {E : cE} {A : Nat → Prop} {r : Nat → Nat} {mc ms : Nat} {z : Int × St} {N : Nat} {a0 : Int} {t : St} (X : gX p s m meth c cX10_hasRoom 2 (some .boolean) yX10_hasRoom args E A) (h : f_X10_hasRoom N a0 t = some z) : gP p l e rm_f_X10_hasRoom s m args below meth c E A 2 (MQ below ((gqI E (gW E r shH) z) A) args s mc ms A) (gW E r shH) 0 [(0, .ref (r 301)), (1, iv a0)] [] t := by
  unfold f_X10_hasRoom at h
  refine g_aload_n X dX10_hasRoom_0 0 rfl ?_
  refine g_getI X fH_X10_44_301 rfl dX10_hasRoom_1 h (fun v1 h => ?_)
  refine g_iload_n X dX10_hasRoom_4 1 rfl ?_
  refine g_iadd X dX10_hasRoom_5 ?_
  refine g_sipush X dX10_hasRoom_6 (by decide) ?_
  refine g_icmp_gt (tgt := 16) X dX10_hasRoom_9 (by decide) h (fun h => ?_) (fun h => ?_)
  · refine g_iconst X dX10_hasRoom_16 ?_
    exact g_zret X h dX10_hasRoom_17
  · refine g_iconst X dX10_hasRoom_12 ?_
    refine g_goto (tgt := 17) X dX10_hasRoom_13 (by decide) ?_
    exact g_zret X h dX10_hasRoom_17
set_option maxHeartbeats 4000000 in
set_option maxRecDepth 100000 in
theorem cp_X10_hasRoom (l : Launch) (E : cE) (r : Nat → Nat) (N : Nat) (a0 : Int) (t : St) (z : Int × St) (h : f_X10_hasRoom N a0 t = some z) : cM l E yX10_hasRoom cX10_hasRoom 2 (some .boolean) rm_f_X10_hasRoom [.ref (r 301), iv a0] (gW E r shH t) (gqI E (gW E r shH) z) := by
  refine g_of (w := gW E r shH) (by decide) (Nat.le_of_ble_eq_true rfl) ?_
  intro p e s m below meth c A X
  exact g_sub (lv' := [(0, .ref (r 301)), (1, iv a0)]) [0, 1] rfl (b_f_X10_hasRoom X h)
abbrev rm_f_X10_append : Room := { frames := 0, cells := 0, slots := 0, locals := 0 }
def f_X10_append_L3 (K4 : (St → Option (St))) (y1 : Int) : Nat → Int → St → Option (St)
  | 0, _, _ => none
  | n9 + 1, x2, t3 =>
    cmpI x2 0 (if x2 < 0 then (K4 t3)
    else (lt1 (t3.1 301 1) fun v5 =>
    cmpI v5 4096 (if v5 < 4096 then (lt1 (t3.1 301 1) fun v6 =>
    ixI v6 4096 (lt1 (pI t3 330 v6.toNat (b8 (b8 (iushrZ y1 x2)))) fun t7 =>
    lt1 (t7.1 301 1) fun v8 =>
    lt1 (pI t7 301 1 (v8 + 1)) fun t9 =>
    f_X10_append_L3 K4 y1 n9 (x2 + (-8)) t9))
    else (K4 t3))))
def f_X10_append (N : Nat) (a0 : Int) (t : St) : Option (St) :=
    f_X10_append_L3 (fun (t10 : St) => some t10) a0 N 24 t
set_option maxHeartbeats 4000000 in
set_option maxRecDepth 100000 in
theorem t_f_X10_append_L3 {p : Program} {l : Launch} {e : Env} {s : State} {m : MethodId} {args : Array Value} {below : List Frame} {meth : Method} {c : Code} {E : cE} {A : Nat → Prop} {r : Nat → Nat} {mc ms : Nat} {z : St} {K4 : (St → Option (St))} {y1 : Int} (X : gX p s m meth c cX10_append 3 none yX10_append args E A) (hK4 : ∀ (t9 : St), K4 t9 = some z → gP p l e rm_f_X10_append s m args below meth c E A 3 (MQ below ((gqV E (gW E r shH) z) A) args s mc ms A) (gW E r shH) 46 [] [] t9) : ∀ (n9 : Nat) (x2 : Int) (t3 : St), f_X10_append_L3 K4 y1 n9 x2 t3 = some z → gP p l e rm_f_X10_append s m args below meth c E A 3 (MQ below ((gqV E (gW E r shH) z) A) args s mc ms A) (gW E r shH) 3 [(0, .ref (r 301)), (1, iv y1), (2, iv x2)] [] t3 := by
  intro n9
  induction n9 with
  | zero => intro x2 t3 h; cases h
  | succ n9 ih =>
    intro x2 t3 h
    unfold f_X10_append_L3 at h
    refine g_iload_n X dX10_append_3 2 rfl ?_
    refine g_if_lt (tgt := 46) X dX10_append_4 (by decide) h (fun h => ?_) (fun h => ?_)
    · exact g_sub (lv' := []) [] rfl (hK4 t3 h)
    · refine g_aload_n X dX10_append_7 0 rfl ?_
      refine g_getI X fH_X10_44_301 rfl dX10_append_8 h (fun v5 h => ?_)
      refine g_sipush X dX10_append_11 (by decide) ?_
      refine g_icmp_ge (tgt := 46) X dX10_append_14 (by decide) h (fun h => ?_) (fun h => ?_)
      · exact g_sub (lv' := []) [] rfl (hK4 t3 h)
      · refine g_aload_n X dX10_append_17 0 rfl ?_
        refine g_getR X fH_X10_9_301 rfl dX10_append_18 ?_
        refine g_aload_n X dX10_append_21 0 rfl ?_
        refine g_getI X fH_X10_44_301 rfl dX10_append_22 h (fun v6 h => ?_)
        refine g_iload_n X dX10_append_25 1 rfl ?_
        refine g_iload_n X dX10_append_26 2 rfl ?_
        refine g_iushrV X dX10_append_27 ?_
        refine g_i2b X dX10_append_28 ?_
        refine g_bast X aH_330 dX10_append_29 h (fun t7 h => ?_)
        refine g_aload_n X dX10_append_30 0 rfl ?_
        refine g_dup X rfl dX10_append_31 ?_
        refine g_getI X fH_X10_44_301 rfl dX10_append_32 h (fun v8 h => ?_)
        refine g_iconst X dX10_append_35 ?_
        refine g_iadd X dX10_append_36 ?_
        refine g_putI X fH_X10_44_301w rfl dX10_append_37 h (fun t9 h => ?_)
        refine g_iinc (lv' := [(2, iv (x2 + (-8))), (0, .ref (r 301)), (1, iv y1)]) X dX10_append_40 (k := 2) rfl (by decide) rfl ?_
        refine g_goto (tgt := 3) X dX10_append_43 (by decide) ?_
        exact g_sub (lv' := [(0, .ref (r 301)), (1, iv y1), (2, iv (x2 + (-8)))]) [1, 2, 0] rfl (ih (x2 + (-8)) t9 h)
set_option maxHeartbeats 4000000 in
set_option maxRecDepth 100000 in
theorem b_f_X10_append {p : Program} {l : Launch} {e : Env} {s : State} {m : MethodId} {args : Array Value} {below : List Frame} {meth : Method} {c : Code} {E : cE} {A : Nat → Prop} {r : Nat → Nat} {mc ms : Nat} {z : St} {N : Nat} {a0 : Int} {t : St} (X : gX p s m meth c cX10_append 3 none yX10_append args E A) (h : f_X10_append N a0 t = some z) : gP p l e rm_f_X10_append s m args below meth c E A 3 (MQ below ((gqV E (gW E r shH) z) A) args s mc ms A) (gW E r shH) 0 [(0, .ref (r 301)), (1, iv a0)] [] t := by
  unfold f_X10_append at h
  refine g_bipush X dX10_append_0 (by decide) ?_
  refine g_istore_n (lv' := [(2, iv 24), (0, .ref (r 301)), (1, iv a0)]) X dX10_append_2 rfl (by decide) rfl ?_
  refine g_sub (lv' := [(0, .ref (r 301)), (1, iv a0), (2, iv 24)]) [1, 2, 0] rfl (t_f_X10_append_L3 X (fun t10 h => ?_) N 24 t h)
  · exact g_vret X h dX10_append_46
set_option maxHeartbeats 4000000 in
set_option maxRecDepth 100000 in
theorem cp_X10_append (l : Launch) (E : cE) (r : Nat → Nat) (N : Nat) (a0 : Int) (t : St) (z : St) (h : f_X10_append N a0 t = some z) : cM l E yX10_append cX10_append 3 none rm_f_X10_append [.ref (r 301), iv a0] (gW E r shH t) (gqV E (gW E r shH) z) := by
  refine g_of (w := gW E r shH) (by decide) (Nat.le_of_ble_eq_true rfl) ?_
  intro p e s m below meth c A X
  exact g_sub (lv' := [(0, .ref (r 301)), (1, iv a0)]) [0, 1] rfl (b_f_X10_append X h)
abbrev rm_f_X10_cut : Room := { frames := 0, cells := 0, slots := 0, locals := 0 }
def f_X10_cut (N : Nat) (a0 : Int) (t : St) : Option (Int × St) :=
    cmpI a0 0 (if a0 < 0 then (boI 0 (some (0, t)))
    else (lt1 (t.1 301 1) fun v1 =>
    cmpI a0 v1 (if v1 < a0 then (boI 0 (some (0, t)))
    else (lt1 (pI t 301 1 a0) fun t2 =>
    boI 1 (some (1, t2))))))
set_option maxHeartbeats 4000000 in
set_option maxRecDepth 100000 in
theorem b_f_X10_cut {p : Program} {l : Launch} {e : Env} {s : State} {m : MethodId} {args : Array Value} {below : List Frame} {meth : Method} {c : Code} {E : cE} {A : Nat → Prop} {r : Nat → Nat} {mc ms : Nat} {z : Int × St} {N : Nat} {a0 : Int} {t : St} (X : gX p s m meth c cX10_cut 2 (some .boolean) yX10_cut args E A) (h : f_X10_cut N a0 t = some z) : gP p l e rm_f_X10_cut s m args below meth c E A 2 (MQ below ((gqI E (gW E r shH) z) A) args s mc ms A) (gW E r shH) 0 [(0, .ref (r 301)), (1, iv a0)] [] t := by
  unfold f_X10_cut at h
  refine g_iload_n X dX10_cut_0 1 rfl ?_
  refine g_if_lt (tgt := 12) X dX10_cut_1 (by decide) h (fun h => ?_) (fun h => ?_)
  · refine g_iconst X dX10_cut_12 ?_
    exact g_zret X h dX10_cut_13
  · refine g_iload_n X dX10_cut_4 1 rfl ?_
    refine g_aload_n X dX10_cut_5 0 rfl ?_
    refine g_getI X fH_X10_44_301 rfl dX10_cut_6 h (fun v1 h => ?_)
    refine g_icmp_le (tgt := 14) X dX10_cut_9 (by decide) h (fun h => ?_) (fun h => ?_)
    · refine g_aload_n X dX10_cut_14 0 rfl ?_
      refine g_iload_n X dX10_cut_15 1 rfl ?_
      refine g_putI X fH_X10_44_301w rfl dX10_cut_16 h (fun t2 h => ?_)
      refine g_iconst X dX10_cut_19 ?_
      exact g_zret X h dX10_cut_20
    · refine g_iconst X dX10_cut_12 ?_
      exact g_zret X h dX10_cut_13
set_option maxHeartbeats 4000000 in
set_option maxRecDepth 100000 in
theorem cp_X10_cut (l : Launch) (E : cE) (r : Nat → Nat) (N : Nat) (a0 : Int) (t : St) (z : Int × St) (h : f_X10_cut N a0 t = some z) : cM l E yX10_cut cX10_cut 2 (some .boolean) rm_f_X10_cut [.ref (r 301), iv a0] (gW E r shH t) (gqI E (gW E r shH) z) := by
  refine g_of (w := gW E r shH) (by decide) (Nat.le_of_ble_eq_true rfl) ?_
  intro p e s m below meth c A X
  exact g_sub (lv' := [(0, .ref (r 301)), (1, iv a0)]) [0, 1] rfl (b_f_X10_cut X h)
theorem dX10_byteAt_0 : decode cX10_byteAt 0 = .ok (.iload_n 1, 1) := by decide +kernel
theorem dX10_byteAt_1 : decode cX10_byteAt 1 = .ok (.ifCond .lt 24, 3) := by decide +kernel
theorem dX10_byteAt_4 : decode cX10_byteAt 4 = .ok (.iload_n 1, 1) := by decide +kernel
theorem dX10_byteAt_5 : decode cX10_byteAt 5 = .ok (.aload_n 0, 1) := by decide +kernel
theorem dX10_byteAt_6 : decode cX10_byteAt 6 = .ok (.getfield 44, 3) := by decide +kernel
theorem dX10_byteAt_9 : decode cX10_byteAt 9 = .ok (.if_icmp .ge 16, 3) := by decide +kernel
theorem dX10_byteAt_12 : decode cX10_byteAt 12 = .ok (.aload_n 0, 1) := by decide +kernel
theorem dX10_byteAt_13 : decode cX10_byteAt 13 = .ok (.getfield 9, 3) := by decide +kernel
theorem dX10_byteAt_16 : decode cX10_byteAt 16 = .ok (.iload_n 1, 1) := by decide +kernel
theorem dX10_byteAt_17 : decode cX10_byteAt 17 = .ok (.baload, 1) := by decide +kernel
theorem dX10_byteAt_18 : decode cX10_byteAt 18 = .ok (.sipush 255, 3) := by decide +kernel
theorem dX10_byteAt_21 : decode cX10_byteAt 21 = .ok (.iand, 1) := by decide +kernel
theorem dX10_byteAt_22 : decode cX10_byteAt 22 = .ok (.goto 4, 3) := by decide +kernel
theorem dX10_byteAt_25 : decode cX10_byteAt 25 = .ok (.iconst 0, 1) := by decide +kernel
theorem dX10_byteAt_26 : decode cX10_byteAt 26 = .ok (.ireturn, 1) := by decide +kernel
abbrev rm_f_X10_byteAt : Room := { frames := 0, cells := 0, slots := 0, locals := 0 }
def f_X10_byteAt (N : Nat) (a0 : Int) (t : St) : Option (Int × St) :=
    cmpI a0 0 (if a0 < 0 then (some (0, t))
    else (lt1 (t.1 301 1) fun v1 =>
    cmpI a0 v1 (if a0 < v1 then (ixI a0 4096 (lt1 (t.1 330 a0.toNat) fun v2 =>
    some (v2 % 256, t)))
    else (some (0, t)))))
set_option maxHeartbeats 4000000 in
set_option maxRecDepth 100000 in
theorem b_f_X10_byteAt {p : Program} {l : Launch} {e : Env} {s : State} {m : MethodId} {args : Array Value} {below : List Frame} {meth : Method} {c : Code} {E : cE} {A : Nat → Prop} {r : Nat → Nat} {mc ms : Nat} {z : Int × St} {N : Nat} {a0 : Int} {t : St} (X : gX p s m meth c cX10_byteAt 2 (some .int) yX10_byteAt args E A) (h : f_X10_byteAt N a0 t = some z) : gP p l e rm_f_X10_byteAt s m args below meth c E A 2 (MQ below ((gqI E (gW E r shH) z) A) args s mc ms A) (gW E r shH) 0 [(0, .ref (r 301)), (1, iv a0)] [] t := by
  unfold f_X10_byteAt at h
  refine g_iload_n X dX10_byteAt_0 1 rfl ?_
  refine g_if_lt (tgt := 25) X dX10_byteAt_1 (by decide) h (fun h => ?_) (fun h => ?_)
  · refine g_iconst X dX10_byteAt_25 ?_
    exact g_iret X h dX10_byteAt_26
  · refine g_iload_n X dX10_byteAt_4 1 rfl ?_
    refine g_aload_n X dX10_byteAt_5 0 rfl ?_
    refine g_getI X fH_X10_44_301 rfl dX10_byteAt_6 h (fun v1 h => ?_)
    refine g_icmp_ge (tgt := 25) X dX10_byteAt_9 (by decide) h (fun h => ?_) (fun h => ?_)
    · refine g_iconst X dX10_byteAt_25 ?_
      exact g_iret X h dX10_byteAt_26
    · refine g_aload_n X dX10_byteAt_12 0 rfl ?_
      refine g_getR X fH_X10_9_301 rfl dX10_byteAt_13 ?_
      refine g_iload_n X dX10_byteAt_16 1 rfl ?_
      refine g_bald X aH_330 dX10_byteAt_17 h (fun v2 h => ?_)
      refine g_sipush X dX10_byteAt_18 (by decide) ?_
      refine g_mask X 8 (by decide) (M := 256) (by decide) (by decide) dX10_byteAt_21 ?_
      refine g_goto (tgt := 26) X dX10_byteAt_22 (by decide) ?_
      exact g_iret X h dX10_byteAt_26
set_option maxHeartbeats 4000000 in
set_option maxRecDepth 100000 in
theorem cp_X10_byteAt (l : Launch) (E : cE) (r : Nat → Nat) (N : Nat) (a0 : Int) (t : St) (z : Int × St) (h : f_X10_byteAt N a0 t = some z) : cM l E yX10_byteAt cX10_byteAt 2 (some .int) rm_f_X10_byteAt [.ref (r 301), iv a0] (gW E r shH t) (gqI E (gW E r shH) z) := by
  refine g_of (w := gW E r shH) (by decide) (Nat.le_of_ble_eq_true rfl) ?_
  intro p e s m below meth c A X
  exact g_sub (lv' := [(0, .ref (r 301)), (1, iv a0)]) [0, 1] rfl (b_f_X10_byteAt X h)
theorem yy_X10_byteAt : cY yX10_byteAt cX10_byteAt 2 (some .int) 1 := ⟨wdK_X10_byteAt, wdZ_RX10, by decide +kernel⟩
theorem yi_X10_byteAt : cYi yX10_byteAt := ⟨wdN_X10_byteAt, wdS_X10_byteAt⟩
theorem dX10_skipBlanks_0 : decode cX10_skipBlanks 0 = .ok (.iconst 0, 1) := by decide +kernel
theorem dX10_skipBlanks_1 : decode cX10_skipBlanks 1 = .ok (.istore_n 2, 1) := by decide +kernel
theorem dX10_skipBlanks_2 : decode cX10_skipBlanks 2 = .ok (.iload_n 1, 1) := by decide +kernel
theorem dX10_skipBlanks_3 : decode cX10_skipBlanks 3 = .ok (.istore_n 3, 1) := by decide +kernel
theorem dX10_skipBlanks_4 : decode cX10_skipBlanks 4 = .ok (.iload_n 3, 1) := by decide +kernel
theorem dX10_skipBlanks_5 : decode cX10_skipBlanks 5 = .ok (.aload_n 0, 1) := by decide +kernel
theorem dX10_skipBlanks_6 : decode cX10_skipBlanks 6 = .ok (.getfield 44, 3) := by decide +kernel
theorem dX10_skipBlanks_9 : decode cX10_skipBlanks 9 = .ok (.if_icmp .ge 86, 3) := by decide +kernel
theorem dX10_skipBlanks_12 : decode cX10_skipBlanks 12 = .ok (.aload_n 0, 1) := by decide +kernel
theorem dX10_skipBlanks_13 : decode cX10_skipBlanks 13 = .ok (.iload_n 3, 1) := by decide +kernel
theorem dX10_skipBlanks_14 : decode cX10_skipBlanks 14 = .ok (.invokevirtual 62, 3) := by decide +kernel
theorem dX10_skipBlanks_17 : decode cX10_skipBlanks 17 = .ok (.istore 4, 2) := by decide +kernel
theorem dX10_skipBlanks_19 : decode cX10_skipBlanks 19 = .ok (.iload 4, 2) := by decide +kernel
theorem dX10_skipBlanks_21 : decode cX10_skipBlanks 21 = .ok (.bipush 9, 2) := by decide +kernel
theorem dX10_skipBlanks_23 : decode cX10_skipBlanks 23 = .ok (.if_icmp .eq 24, 3) := by decide +kernel
theorem dX10_skipBlanks_26 : decode cX10_skipBlanks 26 = .ok (.iload 4, 2) := by decide +kernel
theorem dX10_skipBlanks_28 : decode cX10_skipBlanks 28 = .ok (.bipush 10, 2) := by decide +kernel
theorem dX10_skipBlanks_30 : decode cX10_skipBlanks 30 = .ok (.if_icmp .eq 17, 3) := by decide +kernel
theorem dX10_skipBlanks_33 : decode cX10_skipBlanks 33 = .ok (.iload 4, 2) := by decide +kernel
theorem dX10_skipBlanks_35 : decode cX10_skipBlanks 35 = .ok (.bipush 13, 2) := by decide +kernel
theorem dX10_skipBlanks_37 : decode cX10_skipBlanks 37 = .ok (.if_icmp .eq 10, 3) := by decide +kernel
theorem dX10_skipBlanks_40 : decode cX10_skipBlanks 40 = .ok (.iload 4, 2) := by decide +kernel
theorem dX10_skipBlanks_42 : decode cX10_skipBlanks 42 = .ok (.bipush 32, 2) := by decide +kernel
theorem dX10_skipBlanks_44 : decode cX10_skipBlanks 44 = .ok (.if_icmp .ne 7, 3) := by decide +kernel
theorem dX10_skipBlanks_47 : decode cX10_skipBlanks 47 = .ok (.iconst 1, 1) := by decide +kernel
theorem dX10_skipBlanks_48 : decode cX10_skipBlanks 48 = .ok (.goto 4, 3) := by decide +kernel
theorem dX10_skipBlanks_51 : decode cX10_skipBlanks 51 = .ok (.iconst 0, 1) := by decide +kernel
theorem dX10_skipBlanks_52 : decode cX10_skipBlanks 52 = .ok (.istore 5, 2) := by decide +kernel
theorem dX10_skipBlanks_54 : decode cX10_skipBlanks 54 = .ok (.iload 4, 2) := by decide +kernel
theorem dX10_skipBlanks_56 : decode cX10_skipBlanks 56 = .ok (.bipush 35, 2) := by decide +kernel
theorem dX10_skipBlanks_58 : decode cX10_skipBlanks 58 = .ok (.if_icmp .ne 8, 3) := by decide +kernel
theorem dX10_skipBlanks_61 : decode cX10_skipBlanks 61 = .ok (.iconst 1, 1) := by decide +kernel
theorem dX10_skipBlanks_62 : decode cX10_skipBlanks 62 = .ok (.istore_n 2, 1) := by decide +kernel
theorem dX10_skipBlanks_63 : decode cX10_skipBlanks 63 = .ok (.goto 26, 3) := by decide +kernel
theorem dX10_skipBlanks_66 : decode cX10_skipBlanks 66 = .ok (.iload 4, 2) := by decide +kernel
theorem dX10_skipBlanks_68 : decode cX10_skipBlanks 68 = .ok (.bipush 10, 2) := by decide +kernel
theorem dX10_skipBlanks_70 : decode cX10_skipBlanks 70 = .ok (.if_icmp .ne 8, 3) := by decide +kernel
theorem dX10_skipBlanks_73 : decode cX10_skipBlanks 73 = .ok (.iconst 0, 1) := by decide +kernel
theorem dX10_skipBlanks_74 : decode cX10_skipBlanks 74 = .ok (.istore_n 2, 1) := by decide +kernel
theorem dX10_skipBlanks_75 : decode cX10_skipBlanks 75 = .ok (.goto 14, 3) := by decide +kernel
theorem dX10_skipBlanks_78 : decode cX10_skipBlanks 78 = .ok (.iload 5, 2) := by decide +kernel
theorem dX10_skipBlanks_80 : decode cX10_skipBlanks 80 = .ok (.ifCond .ne 9, 3) := by decide +kernel
theorem dX10_skipBlanks_83 : decode cX10_skipBlanks 83 = .ok (.iload_n 2, 1) := by decide +kernel
theorem dX10_skipBlanks_84 : decode cX10_skipBlanks 84 = .ok (.ifCond .ne 5, 3) := by decide +kernel
theorem dX10_skipBlanks_87 : decode cX10_skipBlanks 87 = .ok (.iload_n 3, 1) := by decide +kernel
theorem dX10_skipBlanks_88 : decode cX10_skipBlanks 88 = .ok (.ireturn, 1) := by decide +kernel
theorem dX10_skipBlanks_89 : decode cX10_skipBlanks 89 = .ok (.iinc 3 1, 3) := by decide +kernel
theorem dX10_skipBlanks_92 : decode cX10_skipBlanks 92 = .ok (.goto (-88), 3) := by decide +kernel
theorem dX10_skipBlanks_95 : decode cX10_skipBlanks 95 = .ok (.aload_n 0, 1) := by decide +kernel
theorem dX10_skipBlanks_96 : decode cX10_skipBlanks 96 = .ok (.getfield 44, 3) := by decide +kernel
theorem dX10_skipBlanks_99 : decode cX10_skipBlanks 99 = .ok (.ireturn, 1) := by decide +kernel
abbrev rm_f_X10_skipBlanks : Room := { frames := 1, cells := 0, slots := 0, locals := 21 }
def f_X10_skipBlanks_L4 (N : Nat) (K4 : (St → Option (Int × St))) : Nat → Int → Int → St → Option (Int × St)
  | 0, _, _, _ => none
  | n9 + 1, x1, x2, t3 =>
    lt1 (t3.1 301 1) fun v5 =>
    cmpI x2 v5 (if x2 < v5 then (bdI (f_X10_byteAt N x2 t3) fun v7 t6 =>
    jn1 (fun (j8 : Int) (t9 : St) => jn1 (fun (j11 : Int) (t12 : St) => f_X10_skipBlanks_L4 N K4 n9 j11 (x2 + 1) t12) fun J13 =>
    cmpI v7 35 (if v7 = 35 then (J13 1 t9)
    else (cmpI v7 10 (if v7 = 10 then (J13 0 t9)
    else (cmpI j8 0 (if j8 = 0 then (cmpI x1 0 (if x1 = 0 then (some (x2, t9))
    else (J13 x1 t9)))
    else (J13 x1 t9))))))) fun J10 =>
    jn1 (fun (t14 : St) => J10 1 t14) fun J15 =>
    cmpI v7 9 (if v7 = 9 then (J15 t6)
    else (cmpI v7 10 (if v7 = 10 then (J15 t6)
    else (cmpI v7 13 (if v7 = 13 then (J15 t6)
    else (cmpI v7 32 (if v7 = 32 then (J15 t6)
    else (J10 0 t6)))))))))
    else (K4 t3))
def f_X10_skipBlanks (N : Nat) (a0 : Int) (t : St) : Option (Int × St) :=
    f_X10_skipBlanks_L4 N (fun (t16 : St) => lt1 (t16.1 301 1) fun v17 =>
    some (v17, t16)) N 0 a0 t
set_option maxHeartbeats 4000000 in
set_option maxRecDepth 100000 in
theorem t_f_X10_skipBlanks_L4 {p : Program} {l : Launch} {e : Env} {s : State} {m : MethodId} {args : Array Value} {below : List Frame} {meth : Method} {c : Code} {E : cE} {A : Nat → Prop} {r : Nat → Nat} {mc ms : Nat} {z : Int × St} {N : Nat} {K4 : (St → Option (Int × St))} (X : gX p s m meth c cX10_skipBlanks 6 (some .int) yX10_skipBlanks args E A) (hK4 : ∀ (t9 : St), K4 t9 = some z → gP p l e rm_f_X10_skipBlanks s m args below meth c E A 6 (MQ below ((gqI E (gW E r shH) z) A) args s mc ms A) (gW E r shH) 95 [(0, .ref (r 301))] [] t9) : ∀ (n9 : Nat) (x1 : Int) (x2 : Int) (t3 : St), f_X10_skipBlanks_L4 N K4 n9 x1 x2 t3 = some z → gP p l e rm_f_X10_skipBlanks s m args below meth c E A 6 (MQ below ((gqI E (gW E r shH) z) A) args s mc ms A) (gW E r shH) 4 [(0, .ref (r 301)), (2, iv x1), (3, iv x2)] [] t3 := by
  intro n9
  induction n9 with
  | zero => intro x1 x2 t3 h; cases h
  | succ n9 ih =>
    intro x1 x2 t3 h
    unfold f_X10_skipBlanks_L4 at h
    refine g_iload_n X dX10_skipBlanks_4 2 rfl ?_
    refine g_aload_n X dX10_skipBlanks_5 0 rfl ?_
    refine g_getI X fH_X10_44_301 rfl dX10_skipBlanks_6 h (fun v5 h => ?_)
    refine g_icmp_ge (tgt := 95) X dX10_skipBlanks_9 (by decide) h (fun h => ?_) (fun h => ?_)
    · exact g_sub (lv' := [(0, .ref (r 301))]) [0] rfl (hK4 t3 h)
    · refine g_aload_n X dX10_skipBlanks_12 0 rfl ?_
      refine g_iload_n X dX10_skipBlanks_13 2 rfl ?_
      refine g_callOI (rest := []) X (fun u9 h9 => cp_X10_byteAt l E r N x2 t3 u9 h9) yy_X10_byteAt yi_X10_byteAt wdM_RX10_62 ⟨_, _, oH_301⟩ rfl rfl rfl (Nat.le_of_ble_eq_true rfl) dX10_skipBlanks_14 ⟨by decide, by decide⟩ ⟨rfl, rfl⟩ h (fun v7 t6 h => ?_)
      refine g_istore (lv' := [(4, iv v7), (0, .ref (r 301)), (2, iv x1), (3, iv x2)]) X dX10_skipBlanks_17 (by decide) rfl ?_
      refine g_iload X dX10_skipBlanks_19 0 rfl ?_
      refine g_bipush X dX10_skipBlanks_21 (by decide) ?_
      refine g_join (J := fun jj => ∀ (j8 : Int) (t9 : St), jj j8 t9 = some z → gP p l e rm_f_X10_skipBlanks s m args below meth c E A 6 (MQ below ((gqI E (gW E r shH) z) A) args s mc ms A) (gW E r shH) 52 [(0, .ref (r 301)), (2, iv x1), (3, iv x2), (4, iv v7)] [iv j8] t9) h (fun j8 t9 h => ?_) (fun J10 hJ10 h => ?_)
      · refine g_istore (lv' := [(5, iv j8), (0, .ref (r 301)), (2, iv x1), (3, iv x2), (4, iv v7)]) X dX10_skipBlanks_52 (by decide) rfl ?_
        refine g_iload X dX10_skipBlanks_54 4 rfl ?_
        refine g_bipush X dX10_skipBlanks_56 (by decide) ?_
        refine g_join (J := fun jj => ∀ (j11 : Int) (t12 : St), jj j11 t12 = some z → gP p l e rm_f_X10_skipBlanks s m args below meth c E A 6 (MQ below ((gqI E (gW E r shH) z) A) args s mc ms A) (gW E r shH) 89 [(0, .ref (r 301)), (2, iv j11), (3, iv x2)] [] t12) h (fun j11 t12 h => ?_) (fun J13 hJ13 h => ?_)
        · refine g_iinc (lv' := [(3, iv (x2 + 1)), (0, .ref (r 301)), (2, iv j11)]) X dX10_skipBlanks_89 (k := 2) rfl (by decide) rfl ?_
          refine g_goto (tgt := 4) X dX10_skipBlanks_92 (by decide) ?_
          exact g_sub (lv' := [(0, .ref (r 301)), (2, iv j11), (3, iv (x2 + 1))]) [1, 2, 0] rfl (ih j11 (x2 + 1) t12 h)
        refine g_icmp_ne (tgt := 66) X dX10_skipBlanks_58 (by decide) h (fun h => ?_) (fun h => ?_)
        · refine g_iload X dX10_skipBlanks_66 4 rfl ?_
          refine g_bipush X dX10_skipBlanks_68 (by decide) ?_
          refine g_icmp_ne (tgt := 78) X dX10_skipBlanks_70 (by decide) h (fun h => ?_) (fun h => ?_)
          · refine g_iload X dX10_skipBlanks_78 0 rfl ?_
            refine g_if_ne (tgt := 89) X dX10_skipBlanks_80 (by decide) h (fun h => ?_) (fun h => ?_)
            · exact g_sub (lv' := [(0, .ref (r 301)), (2, iv x1), (3, iv x2)]) [1, 2, 3] rfl (hJ13 x1 t9 h)
            · refine g_iload_n X dX10_skipBlanks_83 2 rfl ?_
              refine g_if_ne (tgt := 89) X dX10_skipBlanks_84 (by decide) h (fun h => ?_) (fun h => ?_)
              · exact g_sub (lv' := [(0, .ref (r 301)), (2, iv x1), (3, iv x2)]) [1, 2, 3] rfl (hJ13 x1 t9 h)
              · refine g_iload_n X dX10_skipBlanks_87 3 rfl ?_
                exact g_iret X h dX10_skipBlanks_88
          · refine g_iconst X dX10_skipBlanks_73 ?_
            refine g_istore_n (lv' := [(2, iv 0), (5, iv j8), (0, .ref (r 301)), (3, iv x2), (4, iv v7)]) X dX10_skipBlanks_74 rfl (by decide) rfl ?_
            refine g_goto (tgt := 89) X dX10_skipBlanks_75 (by decide) ?_
            exact g_sub (lv' := [(0, .ref (r 301)), (2, iv 0), (3, iv x2)]) [2, 0, 3] rfl (hJ13 0 t9 h)
        · refine g_iconst X dX10_skipBlanks_61 ?_
          refine g_istore_n (lv' := [(2, iv 1), (5, iv j8), (0, .ref (r 301)), (3, iv x2), (4, iv v7)]) X dX10_skipBlanks_62 rfl (by decide) rfl ?_
          refine g_goto (tgt := 89) X dX10_skipBlanks_63 (by decide) ?_
          exact g_sub (lv' := [(0, .ref (r 301)), (2, iv 1), (3, iv x2)]) [2, 0, 3] rfl (hJ13 1 t9 h)
      refine g_join (J := fun jj => ∀ (t14 : St), jj  t14 = some z → gP p l e rm_f_X10_skipBlanks s m args below meth c E A 6 (MQ below ((gqI E (gW E r shH) z) A) args s mc ms A) (gW E r shH) 47 [(0, .ref (r 301)), (2, iv x1), (3, iv x2), (4, iv v7)] [] t14) h (fun  t14 h => ?_) (fun J15 hJ15 h => ?_)
      · refine g_iconst X dX10_skipBlanks_47 ?_
        refine g_goto (tgt := 52) X dX10_skipBlanks_48 (by decide) ?_
        exact g_sub (lv' := [(0, .ref (r 301)), (2, iv x1), (3, iv x2), (4, iv v7)]) [0, 1, 2, 3] rfl (hJ10 1 t14 h)
      refine g_icmp_eq (tgt := 47) X dX10_skipBlanks_23 (by decide) h (fun h => ?_) (fun h => ?_)
      · exact g_sub (lv' := [(0, .ref (r 301)), (2, iv x1), (3, iv x2), (4, iv v7)]) [1, 2, 3, 0] rfl (hJ15 t6 h)
      · refine g_iload X dX10_skipBlanks_26 0 rfl ?_
        refine g_bipush X dX10_skipBlanks_28 (by decide) ?_
        refine g_icmp_eq (tgt := 47) X dX10_skipBlanks_30 (by decide) h (fun h => ?_) (fun h => ?_)
        · exact g_sub (lv' := [(0, .ref (r 301)), (2, iv x1), (3, iv x2), (4, iv v7)]) [1, 2, 3, 0] rfl (hJ15 t6 h)
        · refine g_iload X dX10_skipBlanks_33 0 rfl ?_
          refine g_bipush X dX10_skipBlanks_35 (by decide) ?_
          refine g_icmp_eq (tgt := 47) X dX10_skipBlanks_37 (by decide) h (fun h => ?_) (fun h => ?_)
          · exact g_sub (lv' := [(0, .ref (r 301)), (2, iv x1), (3, iv x2), (4, iv v7)]) [1, 2, 3, 0] rfl (hJ15 t6 h)
          · refine g_iload X dX10_skipBlanks_40 0 rfl ?_
            refine g_bipush X dX10_skipBlanks_42 (by decide) ?_
            refine g_icmp_ne (tgt := 51) X dX10_skipBlanks_44 (by decide) h (fun h => ?_) (fun h => ?_)
            · refine g_iconst X dX10_skipBlanks_51 ?_
              exact g_sub (lv' := [(0, .ref (r 301)), (2, iv x1), (3, iv x2), (4, iv v7)]) [1, 2, 3, 0] rfl (hJ10 0 t6 h)
            · exact g_sub (lv' := [(0, .ref (r 301)), (2, iv x1), (3, iv x2), (4, iv v7)]) [1, 2, 3, 0] rfl (hJ15 t6 h)
set_option maxHeartbeats 4000000 in
set_option maxRecDepth 100000 in
theorem b_f_X10_skipBlanks {p : Program} {l : Launch} {e : Env} {s : State} {m : MethodId} {args : Array Value} {below : List Frame} {meth : Method} {c : Code} {E : cE} {A : Nat → Prop} {r : Nat → Nat} {mc ms : Nat} {z : Int × St} {N : Nat} {a0 : Int} {t : St} (X : gX p s m meth c cX10_skipBlanks 6 (some .int) yX10_skipBlanks args E A) (h : f_X10_skipBlanks N a0 t = some z) : gP p l e rm_f_X10_skipBlanks s m args below meth c E A 6 (MQ below ((gqI E (gW E r shH) z) A) args s mc ms A) (gW E r shH) 0 [(0, .ref (r 301)), (1, iv a0)] [] t := by
  unfold f_X10_skipBlanks at h
  refine g_iconst X dX10_skipBlanks_0 ?_
  refine g_istore_n (lv' := [(2, iv 0), (0, .ref (r 301)), (1, iv a0)]) X dX10_skipBlanks_1 rfl (by decide) rfl ?_
  refine g_iload_n X dX10_skipBlanks_2 2 rfl ?_
  refine g_istore_n (lv' := [(3, iv a0), (2, iv 0), (0, .ref (r 301)), (1, iv a0)]) X dX10_skipBlanks_3 rfl (by decide) rfl ?_
  refine g_sub (lv' := [(0, .ref (r 301)), (2, iv 0), (3, iv a0)]) [2, 1, 0] rfl (t_f_X10_skipBlanks_L4 X (fun t16 h => ?_) N 0 a0 t h)
  · refine g_aload_n X dX10_skipBlanks_95 0 rfl ?_
    refine g_getI X fH_X10_44_301 rfl dX10_skipBlanks_96 h (fun v17 h => ?_)
    exact g_iret X h dX10_skipBlanks_99
set_option maxHeartbeats 4000000 in
set_option maxRecDepth 100000 in
theorem cp_X10_skipBlanks (l : Launch) (E : cE) (r : Nat → Nat) (N : Nat) (a0 : Int) (t : St) (z : Int × St) (h : f_X10_skipBlanks N a0 t = some z) : cM l E yX10_skipBlanks cX10_skipBlanks 6 (some .int) rm_f_X10_skipBlanks [.ref (r 301), iv a0] (gW E r shH t) (gqI E (gW E r shH) z) := by
  refine g_of (w := gW E r shH) (by decide) (Nat.le_of_ble_eq_true rfl) ?_
  intro p e s m below meth c A X
  exact g_sub (lv' := [(0, .ref (r 301)), (1, iv a0)]) [0, 1] rfl (b_f_X10_skipBlanks X h)
theorem yy_X10_skipBlanks : cY yX10_skipBlanks cX10_skipBlanks 6 (some .int) 1 := ⟨wdK_X10_skipBlanks, wdZ_RX10, by decide +kernel⟩
theorem yi_X10_skipBlanks : cYi yX10_skipBlanks := ⟨wdN_X10_skipBlanks, wdS_X10_skipBlanks⟩
theorem dX10_isLetter_0 : decode cX10_isLetter 0 = .ok (.iload_n 0, 1) := by decide +kernel
theorem dX10_isLetter_1 : decode cX10_isLetter 1 = .ok (.bipush 97, 2) := by decide +kernel
theorem dX10_isLetter_3 : decode cX10_isLetter 3 = .ok (.if_icmp .lt 9, 3) := by decide +kernel
theorem dX10_isLetter_6 : decode cX10_isLetter 6 = .ok (.iload_n 0, 1) := by decide +kernel
theorem dX10_isLetter_7 : decode cX10_isLetter 7 = .ok (.bipush 122, 2) := by decide +kernel
theorem dX10_isLetter_9 : decode cX10_isLetter 9 = .ok (.if_icmp .le 15, 3) := by decide +kernel
theorem dX10_isLetter_12 : decode cX10_isLetter 12 = .ok (.iload_n 0, 1) := by decide +kernel
theorem dX10_isLetter_13 : decode cX10_isLetter 13 = .ok (.bipush 65, 2) := by decide +kernel
theorem dX10_isLetter_15 : decode cX10_isLetter 15 = .ok (.if_icmp .lt 13, 3) := by decide +kernel
theorem dX10_isLetter_18 : decode cX10_isLetter 18 = .ok (.iload_n 0, 1) := by decide +kernel
theorem dX10_isLetter_19 : decode cX10_isLetter 19 = .ok (.bipush 90, 2) := by decide +kernel
theorem dX10_isLetter_21 : decode cX10_isLetter 21 = .ok (.if_icmp .gt 7, 3) := by decide +kernel
theorem dX10_isLetter_24 : decode cX10_isLetter 24 = .ok (.iconst 1, 1) := by decide +kernel
theorem dX10_isLetter_25 : decode cX10_isLetter 25 = .ok (.goto 4, 3) := by decide +kernel
theorem dX10_isLetter_28 : decode cX10_isLetter 28 = .ok (.iconst 0, 1) := by decide +kernel
theorem dX10_isLetter_29 : decode cX10_isLetter 29 = .ok (.ireturn, 1) := by decide +kernel
abbrev rm_f_X10_isLetter : Room := { frames := 0, cells := 0, slots := 0, locals := 0 }
def f_X10_isLetter (N : Nat) (a0 : Int) (t : St) : Option (Int × St) :=
    jn1 (fun (t1 : St) => cmpI a0 65 (if a0 < 65 then (boI 0 (some (0, t1)))
    else (cmpI a0 90 (if 90 < a0 then (boI 0 (some (0, t1)))
    else (boI 1 (some (1, t1))))))) fun J2 =>
    cmpI a0 97 (if a0 < 97 then (J2 t)
    else (cmpI a0 122 (if 122 < a0 then (J2 t)
    else (boI 1 (some (1, t))))))
set_option maxHeartbeats 4000000 in
set_option maxRecDepth 100000 in
theorem b_f_X10_isLetter {p : Program} {l : Launch} {e : Env} {s : State} {m : MethodId} {args : Array Value} {below : List Frame} {meth : Method} {c : Code} {E : cE} {A : Nat → Prop} {r : Nat → Nat} {mc ms : Nat} {z : Int × St} {N : Nat} {a0 : Int} {t : St} (X : gX p s m meth c cX10_isLetter 1 (some .boolean) yX10_isLetter args E A) (h : f_X10_isLetter N a0 t = some z) : gP p l e rm_f_X10_isLetter s m args below meth c E A 1 (MQ below ((gqI E (gW E r shH) z) A) args s mc ms A) (gW E r shH) 0 [(0, iv a0)] [] t := by
  unfold f_X10_isLetter at h
  refine g_iload_n X dX10_isLetter_0 0 rfl ?_
  refine g_bipush X dX10_isLetter_1 (by decide) ?_
  refine g_join (J := fun jj => ∀ (t1 : St), jj  t1 = some z → gP p l e rm_f_X10_isLetter s m args below meth c E A 1 (MQ below ((gqI E (gW E r shH) z) A) args s mc ms A) (gW E r shH) 12 [(0, iv a0)] [] t1) h (fun  t1 h => ?_) (fun J2 hJ2 h => ?_)
  · refine g_iload_n X dX10_isLetter_12 0 rfl ?_
    refine g_bipush X dX10_isLetter_13 (by decide) ?_
    refine g_icmp_lt (tgt := 28) X dX10_isLetter_15 (by decide) h (fun h => ?_) (fun h => ?_)
    · refine g_iconst X dX10_isLetter_28 ?_
      exact g_zret X h dX10_isLetter_29
    · refine g_iload_n X dX10_isLetter_18 0 rfl ?_
      refine g_bipush X dX10_isLetter_19 (by decide) ?_
      refine g_icmp_gt (tgt := 28) X dX10_isLetter_21 (by decide) h (fun h => ?_) (fun h => ?_)
      · refine g_iconst X dX10_isLetter_28 ?_
        exact g_zret X h dX10_isLetter_29
      · refine g_iconst X dX10_isLetter_24 ?_
        refine g_goto (tgt := 29) X dX10_isLetter_25 (by decide) ?_
        exact g_zret X h dX10_isLetter_29
  refine g_icmp_lt (tgt := 12) X dX10_isLetter_3 (by decide) h (fun h => ?_) (fun h => ?_)
  · exact g_sub (lv' := [(0, iv a0)]) [0] rfl (hJ2 t h)
  · refine g_iload_n X dX10_isLetter_6 0 rfl ?_
    refine g_bipush X dX10_isLetter_7 (by decide) ?_
    refine g_icmp_le (tgt := 24) X dX10_isLetter_9 (by decide) h (fun h => ?_) (fun h => ?_)
    · refine g_iconst X dX10_isLetter_24 ?_
      refine g_goto (tgt := 29) X dX10_isLetter_25 (by decide) ?_
      exact g_zret X h dX10_isLetter_29
    · exact g_sub (lv' := [(0, iv a0)]) [0] rfl (hJ2 t h)
set_option maxHeartbeats 4000000 in
set_option maxRecDepth 100000 in
theorem cp_X10_isLetter (l : Launch) (E : cE) (r : Nat → Nat) (N : Nat) (a0 : Int) (t : St) (z : Int × St) (h : f_X10_isLetter N a0 t = some z) : cM l E yX10_isLetter cX10_isLetter 1 (some .boolean) rm_f_X10_isLetter [iv a0] (gW E r shH t) (gqI E (gW E r shH) z) := by
  refine g_of (w := gW E r shH) (by decide) (Nat.le_of_ble_eq_true rfl) ?_
  intro p e s m below meth c A X
  exact g_sub (lv' := [(0, iv a0)]) [0] rfl (b_f_X10_isLetter X h)
theorem yy_X10_isLetter : cY yX10_isLetter cX10_isLetter 1 (some .boolean) 1 := ⟨wdK_X10_isLetter, wdZ_RX10, by decide +kernel⟩
theorem dX10_isDigit_0 : decode cX10_isDigit 0 = .ok (.iload_n 0, 1) := by decide +kernel
theorem dX10_isDigit_1 : decode cX10_isDigit 1 = .ok (.bipush 48, 2) := by decide +kernel
theorem dX10_isDigit_3 : decode cX10_isDigit 3 = .ok (.if_icmp .lt 13, 3) := by decide +kernel
theorem dX10_isDigit_6 : decode cX10_isDigit 6 = .ok (.iload_n 0, 1) := by decide +kernel
theorem dX10_isDigit_7 : decode cX10_isDigit 7 = .ok (.bipush 57, 2) := by decide +kernel
theorem dX10_isDigit_9 : decode cX10_isDigit 9 = .ok (.if_icmp .gt 7, 3) := by decide +kernel
theorem dX10_isDigit_12 : decode cX10_isDigit 12 = .ok (.iconst 1, 1) := by decide +kernel
theorem dX10_isDigit_13 : decode cX10_isDigit 13 = .ok (.goto 4, 3) := by decide +kernel
theorem dX10_isDigit_16 : decode cX10_isDigit 16 = .ok (.iconst 0, 1) := by decide +kernel
theorem dX10_isDigit_17 : decode cX10_isDigit 17 = .ok (.ireturn, 1) := by decide +kernel
abbrev rm_f_X10_isDigit : Room := { frames := 0, cells := 0, slots := 0, locals := 0 }
def f_X10_isDigit (N : Nat) (a0 : Int) (t : St) : Option (Int × St) :=
    cmpI a0 48 (if a0 < 48 then (boI 0 (some (0, t)))
    else (cmpI a0 57 (if 57 < a0 then (boI 0 (some (0, t)))
    else (boI 1 (some (1, t))))))
set_option maxHeartbeats 4000000 in
set_option maxRecDepth 100000 in
theorem b_f_X10_isDigit {p : Program} {l : Launch} {e : Env} {s : State} {m : MethodId} {args : Array Value} {below : List Frame} {meth : Method} {c : Code} {E : cE} {A : Nat → Prop} {r : Nat → Nat} {mc ms : Nat} {z : Int × St} {N : Nat} {a0 : Int} {t : St} (X : gX p s m meth c cX10_isDigit 1 (some .boolean) yX10_isDigit args E A) (h : f_X10_isDigit N a0 t = some z) : gP p l e rm_f_X10_isDigit s m args below meth c E A 1 (MQ below ((gqI E (gW E r shH) z) A) args s mc ms A) (gW E r shH) 0 [(0, iv a0)] [] t := by
  unfold f_X10_isDigit at h
  refine g_iload_n X dX10_isDigit_0 0 rfl ?_
  refine g_bipush X dX10_isDigit_1 (by decide) ?_
  refine g_icmp_lt (tgt := 16) X dX10_isDigit_3 (by decide) h (fun h => ?_) (fun h => ?_)
  · refine g_iconst X dX10_isDigit_16 ?_
    exact g_zret X h dX10_isDigit_17
  · refine g_iload_n X dX10_isDigit_6 0 rfl ?_
    refine g_bipush X dX10_isDigit_7 (by decide) ?_
    refine g_icmp_gt (tgt := 16) X dX10_isDigit_9 (by decide) h (fun h => ?_) (fun h => ?_)
    · refine g_iconst X dX10_isDigit_16 ?_
      exact g_zret X h dX10_isDigit_17
    · refine g_iconst X dX10_isDigit_12 ?_
      refine g_goto (tgt := 17) X dX10_isDigit_13 (by decide) ?_
      exact g_zret X h dX10_isDigit_17
set_option maxHeartbeats 4000000 in
set_option maxRecDepth 100000 in
theorem cp_X10_isDigit (l : Launch) (E : cE) (r : Nat → Nat) (N : Nat) (a0 : Int) (t : St) (z : Int × St) (h : f_X10_isDigit N a0 t = some z) : cM l E yX10_isDigit cX10_isDigit 1 (some .boolean) rm_f_X10_isDigit [iv a0] (gW E r shH t) (gqI E (gW E r shH) z) := by
  refine g_of (w := gW E r shH) (by decide) (Nat.le_of_ble_eq_true rfl) ?_
  intro p e s m below meth c A X
  exact g_sub (lv' := [(0, iv a0)]) [0] rfl (b_f_X10_isDigit X h)
theorem yy_X10_isDigit : cY yX10_isDigit cX10_isDigit 1 (some .boolean) 1 := ⟨wdK_X10_isDigit, wdZ_RX10, by decide +kernel⟩
theorem dX10_put_0 : decode cX10_put 0 = .ok (.aload_n 0, 1) := by decide +kernel
theorem dX10_put_1 : decode cX10_put 1 = .ok (.getfield 48, 3) := by decide +kernel
theorem dX10_put_4 : decode cX10_put 4 = .ok (.aload_n 0, 1) := by decide +kernel
theorem dX10_put_5 : decode cX10_put 5 = .ok (.getfield 19, 3) := by decide +kernel
theorem dX10_put_8 : decode cX10_put 8 = .ok (.arraylength, 1) := by decide +kernel
theorem dX10_put_9 : decode cX10_put 9 = .ok (.if_icmp .ge 43, 3) := by decide +kernel
theorem dX10_put_12 : decode cX10_put 12 = .ok (.aload_n 0, 1) := by decide +kernel
theorem dX10_put_13 : decode cX10_put 13 = .ok (.getfield 19, 3) := by decide +kernel
theorem dX10_put_16 : decode cX10_put 16 = .ok (.aload_n 0, 1) := by decide +kernel
theorem dX10_put_17 : decode cX10_put 17 = .ok (.getfield 48, 3) := by decide +kernel
theorem dX10_put_20 : decode cX10_put 20 = .ok (.iload_n 1, 1) := by decide +kernel
theorem dX10_put_21 : decode cX10_put 21 = .ok (.iastore, 1) := by decide +kernel
theorem dX10_put_22 : decode cX10_put 22 = .ok (.aload_n 0, 1) := by decide +kernel
theorem dX10_put_23 : decode cX10_put 23 = .ok (.getfield 23, 3) := by decide +kernel
theorem dX10_put_26 : decode cX10_put 26 = .ok (.aload_n 0, 1) := by decide +kernel
theorem dX10_put_27 : decode cX10_put 27 = .ok (.getfield 48, 3) := by decide +kernel
theorem dX10_put_30 : decode cX10_put 30 = .ok (.iload_n 2, 1) := by decide +kernel
theorem dX10_put_31 : decode cX10_put 31 = .ok (.iastore, 1) := by decide +kernel
theorem dX10_put_32 : decode cX10_put 32 = .ok (.aload_n 0, 1) := by decide +kernel
theorem dX10_put_33 : decode cX10_put 33 = .ok (.getfield 26, 3) := by decide +kernel
theorem dX10_put_36 : decode cX10_put 36 = .ok (.aload_n 0, 1) := by decide +kernel
theorem dX10_put_37 : decode cX10_put 37 = .ok (.getfield 48, 3) := by decide +kernel
theorem dX10_put_40 : decode cX10_put 40 = .ok (.iload_n 3, 1) := by decide +kernel
theorem dX10_put_41 : decode cX10_put 41 = .ok (.iastore, 1) := by decide +kernel
theorem dX10_put_42 : decode cX10_put 42 = .ok (.aload_n 0, 1) := by decide +kernel
theorem dX10_put_43 : decode cX10_put 43 = .ok (.dup, 1) := by decide +kernel
theorem dX10_put_44 : decode cX10_put 44 = .ok (.getfield 48, 3) := by decide +kernel
theorem dX10_put_47 : decode cX10_put 47 = .ok (.iconst 1, 1) := by decide +kernel
theorem dX10_put_48 : decode cX10_put 48 = .ok (.iadd, 1) := by decide +kernel
theorem dX10_put_49 : decode cX10_put 49 = .ok (.putfield 48, 3) := by decide +kernel
theorem dX10_put_52 : decode cX10_put 52 = .ok (.return_, 1) := by decide +kernel
abbrev rm_f_X10_put : Room := { frames := 0, cells := 0, slots := 0, locals := 0 }
def f_X10_put (N : Nat) (a0 : Int) (a1 : Int) (a2 : Int) (t : St) : Option (St) :=
    lt1 (t.1 301 7) fun v1 =>
    cmpI v1 4098 (if v1 < 4098 then (lt1 (t.1 301 7) fun v2 =>
    ixI v2 4098 (lt1 (pI t 332 v2.toNat a0) fun t3 =>
    lt1 (t3.1 301 7) fun v4 =>
    ixI v4 4098 (lt1 (pI t3 333 v4.toNat a1) fun t5 =>
    lt1 (t5.1 301 7) fun v6 =>
    ixI v6 4098 (lt1 (pI t5 334 v6.toNat a2) fun t7 =>
    lt1 (t7.1 301 7) fun v8 =>
    lt1 (pI t7 301 7 (v8 + 1)) fun t9 =>
    some t9))))
    else (some t))
set_option maxHeartbeats 4000000 in
set_option maxRecDepth 100000 in
theorem b_f_X10_put {p : Program} {l : Launch} {e : Env} {s : State} {m : MethodId} {args : Array Value} {below : List Frame} {meth : Method} {c : Code} {E : cE} {A : Nat → Prop} {r : Nat → Nat} {mc ms : Nat} {z : St} {N : Nat} {a0 : Int} {a1 : Int} {a2 : Int} {t : St} (X : gX p s m meth c cX10_put 4 none yX10_put args E A) (h : f_X10_put N a0 a1 a2 t = some z) : gP p l e rm_f_X10_put s m args below meth c E A 4 (MQ below ((gqV E (gW E r shH) z) A) args s mc ms A) (gW E r shH) 0 [(0, .ref (r 301)), (1, iv a0), (2, iv a1), (3, iv a2)] [] t := by
  unfold f_X10_put at h
  refine g_aload_n X dX10_put_0 0 rfl ?_
  refine g_getI X fH_X10_48_301 rfl dX10_put_1 h (fun v1 h => ?_)
  refine g_aload_n X dX10_put_4 0 rfl ?_
  refine g_getR X fH_X10_19_301 rfl dX10_put_5 ?_
  refine g_alen1 X aH_332 dX10_put_8 ?_
  refine g_icmp_ge (tgt := 52) X dX10_put_9 (by decide) h (fun h => ?_) (fun h => ?_)
  · exact g_vret X h dX10_put_52
  · refine g_aload_n X dX10_put_12 0 rfl ?_
    refine g_getR X fH_X10_19_301 rfl dX10_put_13 ?_
    refine g_aload_n X dX10_put_16 0 rfl ?_
    refine g_getI X fH_X10_48_301 rfl dX10_put_17 h (fun v2 h => ?_)
    refine g_iload_n X dX10_put_20 1 rfl ?_
    refine g_iast X aH_332 dX10_put_21 h (fun t3 h => ?_)
    refine g_aload_n X dX10_put_22 0 rfl ?_
    refine g_getR X fH_X10_23_301 rfl dX10_put_23 ?_
    refine g_aload_n X dX10_put_26 0 rfl ?_
    refine g_getI X fH_X10_48_301 rfl dX10_put_27 h (fun v4 h => ?_)
    refine g_iload_n X dX10_put_30 2 rfl ?_
    refine g_iast X aH_333 dX10_put_31 h (fun t5 h => ?_)
    refine g_aload_n X dX10_put_32 0 rfl ?_
    refine g_getR X fH_X10_26_301 rfl dX10_put_33 ?_
    refine g_aload_n X dX10_put_36 0 rfl ?_
    refine g_getI X fH_X10_48_301 rfl dX10_put_37 h (fun v6 h => ?_)
    refine g_iload_n X dX10_put_40 3 rfl ?_
    refine g_iast X aH_334 dX10_put_41 h (fun t7 h => ?_)
    refine g_aload_n X dX10_put_42 0 rfl ?_
    refine g_dup X rfl dX10_put_43 ?_
    refine g_getI X fH_X10_48_301 rfl dX10_put_44 h (fun v8 h => ?_)
    refine g_iconst X dX10_put_47 ?_
    refine g_iadd X dX10_put_48 ?_
    refine g_putI X fH_X10_48_301w rfl dX10_put_49 h (fun t9 h => ?_)
    exact g_vret X h dX10_put_52
set_option maxHeartbeats 4000000 in
set_option maxRecDepth 100000 in
theorem cp_X10_put (l : Launch) (E : cE) (r : Nat → Nat) (N : Nat) (a0 : Int) (a1 : Int) (a2 : Int) (t : St) (z : St) (h : f_X10_put N a0 a1 a2 t = some z) : cM l E yX10_put cX10_put 4 none rm_f_X10_put [.ref (r 301), iv a0, iv a1, iv a2] (gW E r shH t) (gqV E (gW E r shH) z) := by
  refine g_of (w := gW E r shH) (by decide) (Nat.le_of_ble_eq_true rfl) ?_
  intro p e s m below meth c A X
  exact g_sub (lv' := [(0, .ref (r 301)), (1, iv a0), (2, iv a1), (3, iv a2)]) [0, 1, 2, 3] rfl (b_f_X10_put X h)
theorem yy_X10_put : cY yX10_put cX10_put 4 none 3 := ⟨wdK_X10_put, wdZ_RX10, by decide +kernel⟩
theorem yi_X10_put : cYi yX10_put := ⟨wdN_X10_put, wdS_X10_put⟩
theorem dX11_lettersOf_0 : decode cX11_lettersOf 0 = .ok (.lconst 0, 1) := by decide +kernel
theorem dX11_lettersOf_1 : decode cX11_lettersOf 1 = .ok (.lstore_n 3, 1) := by decide +kernel
theorem dX11_lettersOf_2 : decode cX11_lettersOf 2 = .ok (.iconst 0, 1) := by decide +kernel
theorem dX11_lettersOf_3 : decode cX11_lettersOf 3 = .ok (.istore 5, 2) := by decide +kernel
theorem dX11_lettersOf_5 : decode cX11_lettersOf 5 = .ok (.iload 5, 2) := by decide +kernel
theorem dX11_lettersOf_7 : decode cX11_lettersOf 7 = .ok (.bipush 8, 2) := by decide +kernel
theorem dX11_lettersOf_9 : decode cX11_lettersOf 9 = .ok (.if_icmp .ge 45, 3) := by decide +kernel
theorem dX11_lettersOf_12 : decode cX11_lettersOf 12 = .ok (.lload_n 3, 1) := by decide +kernel
theorem dX11_lettersOf_13 : decode cX11_lettersOf 13 = .ok (.bipush 8, 2) := by decide +kernel
theorem dX11_lettersOf_15 : decode cX11_lettersOf 15 = .ok (.lshl, 1) := by decide +kernel
theorem dX11_lettersOf_16 : decode cX11_lettersOf 16 = .ok (.lstore_n 3, 1) := by decide +kernel
theorem dX11_lettersOf_17 : decode cX11_lettersOf 17 = .ok (.iload_n 1, 1) := by decide +kernel
theorem dX11_lettersOf_18 : decode cX11_lettersOf 18 = .ok (.iload 5, 2) := by decide +kernel
theorem dX11_lettersOf_20 : decode cX11_lettersOf 20 = .ok (.iadd, 1) := by decide +kernel
theorem dX11_lettersOf_21 : decode cX11_lettersOf 21 = .ok (.iload_n 2, 1) := by decide +kernel
theorem dX11_lettersOf_22 : decode cX11_lettersOf 22 = .ok (.if_icmp .ge 26, 3) := by decide +kernel
theorem dX11_lettersOf_25 : decode cX11_lettersOf 25 = .ok (.iload_n 1, 1) := by decide +kernel
theorem dX11_lettersOf_26 : decode cX11_lettersOf 26 = .ok (.iload 5, 2) := by decide +kernel
theorem dX11_lettersOf_28 : decode cX11_lettersOf 28 = .ok (.iadd, 1) := by decide +kernel
theorem dX11_lettersOf_29 : decode cX11_lettersOf 29 = .ok (.aload_n 0, 1) := by decide +kernel
theorem dX11_lettersOf_30 : decode cX11_lettersOf 30 = .ok (.arraylength, 1) := by decide +kernel
theorem dX11_lettersOf_31 : decode cX11_lettersOf 31 = .ok (.if_icmp .ge 17, 3) := by decide +kernel
theorem dX11_lettersOf_34 : decode cX11_lettersOf 34 = .ok (.lload_n 3, 1) := by decide +kernel
theorem dX11_lettersOf_35 : decode cX11_lettersOf 35 = .ok (.aload_n 0, 1) := by decide +kernel
theorem dX11_lettersOf_36 : decode cX11_lettersOf 36 = .ok (.iload_n 1, 1) := by decide +kernel
theorem dX11_lettersOf_37 : decode cX11_lettersOf 37 = .ok (.iload 5, 2) := by decide +kernel
theorem dX11_lettersOf_39 : decode cX11_lettersOf 39 = .ok (.iadd, 1) := by decide +kernel
theorem dX11_lettersOf_40 : decode cX11_lettersOf 40 = .ok (.baload, 1) := by decide +kernel
theorem dX11_lettersOf_41 : decode cX11_lettersOf 41 = .ok (.sipush 255, 3) := by decide +kernel
theorem dX11_lettersOf_44 : decode cX11_lettersOf 44 = .ok (.iand, 1) := by decide +kernel
theorem dX11_lettersOf_45 : decode cX11_lettersOf 45 = .ok (.i2l, 1) := by decide +kernel
theorem dX11_lettersOf_46 : decode cX11_lettersOf 46 = .ok (.lor, 1) := by decide +kernel
theorem dX11_lettersOf_47 : decode cX11_lettersOf 47 = .ok (.lstore_n 3, 1) := by decide +kernel
theorem dX11_lettersOf_48 : decode cX11_lettersOf 48 = .ok (.iinc 5 1, 3) := by decide +kernel
theorem dX11_lettersOf_51 : decode cX11_lettersOf 51 = .ok (.goto (-46), 3) := by decide +kernel
theorem dX11_lettersOf_54 : decode cX11_lettersOf 54 = .ok (.lload_n 3, 1) := by decide +kernel
theorem dX11_lettersOf_55 : decode cX11_lettersOf 55 = .ok (.lreturn, 1) := by decide +kernel
abbrev rm_f_X11_lettersOf : Room := { frames := 0, cells := 0, slots := 0, locals := 0 }
def f_X11_lettersOf_L5 (q0 : Nat) (n0 : Nat) (K6 : (Int64 → St → Option (Int64 × St))) (y1 : Int) (y2 : Int) : Nat → Int64 → Int → St → Option (Int64 × St)
  | 0, _, _, _ => none
  | n9 + 1, x3, x4, t5 =>
    cmpI x4 8 (if x4 < 8 then (jn1 (fun (j7 : Int64) (t8 : St) => f_X11_lettersOf_L5 q0 n0 K6 y1 y2 n9 j7 (x4 + 1) t8) fun J9 =>
    cmpI (y1 + x4) y2 (if (y1 + x4) < y2 then (cmpI (y1 + x4) ((n0 : Nat) : Int) (if (y1 + x4) < ((n0 : Nat) : Int) then (ixI (y1 + x4) n0 (lt1 (t5.1 q0 (y1 + x4).toNat) fun v10 =>
    rnI (v10 % 256) (
    J9 ((shlL x3 8) ||| (Int64.ofInt (v10 % 256))) t5)))
    else (J9 (shlL x3 8) t5)))
    else (J9 (shlL x3 8) t5)))
    else (K6 x3 t5))
def f_X11_lettersOf (N : Nat) (q0 : Nat) (n0 : Nat) (a1 : Int) (a2 : Int) (t : St) : Option (Int64 × St) :=
    f_X11_lettersOf_L5 q0 n0 (fun (k11 : Int64) (t12 : St) => some (k11, t12)) a1 a2 N (0 : Int64) 0 t
set_option maxHeartbeats 4000000 in
set_option maxRecDepth 100000 in
theorem t_f_X11_lettersOf_L5 {p : Program} {l : Launch} {e : Env} {s : State} {m : MethodId} {args : Array Value} {below : List Frame} {meth : Method} {c : Code} {E : cE} {A : Nat → Prop} {r : Nat → Nat} {mc ms : Nat} {z : Int64 × St} {q0 n0 : Nat} (hq0 : gA shH q0 0 n0) {K6 : (Int64 → St → Option (Int64 × St))} {y1 : Int} {y2 : Int} (X : gX p s m meth c cX11_lettersOf 6 (some .long) yX11_lettersOf args E A) (hK6 : ∀ (q3 : Int64) (t9 : St), K6 q3 t9 = some z → gP p l e rm_f_X11_lettersOf s m args below meth c E A 6 (MQ below ((gqL E (gW E r shH) z) A) args s mc ms A) (gW E r shH) 54 [(3, .long q3)] [] t9) : ∀ (n9 : Nat) (x3 : Int64) (x4 : Int) (t5 : St), f_X11_lettersOf_L5 q0 n0 K6 y1 y2 n9 x3 x4 t5 = some z → gP p l e rm_f_X11_lettersOf s m args below meth c E A 6 (MQ below ((gqL E (gW E r shH) z) A) args s mc ms A) (gW E r shH) 5 [(0, .ref (r q0)), (1, iv y1), (2, iv y2), (3, .long x3), (5, iv x4)] [] t5 := by
  intro n9
  induction n9 with
  | zero => intro x3 x4 t5 h; cases h
  | succ n9 ih =>
    intro x3 x4 t5 h
    unfold f_X11_lettersOf_L5 at h
    refine g_iload X dX11_lettersOf_5 4 rfl ?_
    refine g_bipush X dX11_lettersOf_7 (by decide) ?_
    refine g_icmp_ge (tgt := 54) X dX11_lettersOf_9 (by decide) h (fun h => ?_) (fun h => ?_)
    · exact g_sub (lv' := [(3, .long x3)]) [3] rfl (hK6 x3 t5 h)
    · refine g_lload_n X dX11_lettersOf_12 3 rfl ?_
      refine g_bipush X dX11_lettersOf_13 (by decide) ?_
      refine g_lshl X dX11_lettersOf_15 ?_
      refine g_lstore_n (lv' := [(3, .long (shlL x3 8)), (0, .ref (r q0)), (1, iv y1), (2, iv y2), (5, iv x4)]) X dX11_lettersOf_16 rfl (by decide) rfl ?_
      refine g_iload_n X dX11_lettersOf_17 2 rfl ?_
      refine g_iload X dX11_lettersOf_18 4 rfl ?_
      refine g_iadd X dX11_lettersOf_20 ?_
      refine g_iload_n X dX11_lettersOf_21 3 rfl ?_
      refine g_join (J := fun jj => ∀ (j7 : Int64) (t8 : St), jj j7 t8 = some z → gP p l e rm_f_X11_lettersOf s m args below meth c E A 6 (MQ below ((gqL E (gW E r shH) z) A) args s mc ms A) (gW E r shH) 48 [(0, .ref (r q0)), (1, iv y1), (2, iv y2), (3, .long j7), (5, iv x4)] [] t8) h (fun j7 t8 h => ?_) (fun J9 hJ9 h => ?_)
      · refine g_iinc (lv' := [(5, iv (x4 + 1)), (0, .ref (r q0)), (1, iv y1), (2, iv y2), (3, .long j7)]) X dX11_lettersOf_48 (k := 4) rfl (by decide) rfl ?_
        refine g_goto (tgt := 5) X dX11_lettersOf_51 (by decide) ?_
        exact g_sub (lv' := [(0, .ref (r q0)), (1, iv y1), (2, iv y2), (3, .long j7), (5, iv (x4 + 1))]) [1, 2, 3, 4, 0] rfl (ih j7 (x4 + 1) t8 h)
      refine g_icmp_ge (tgt := 48) X dX11_lettersOf_22 (by decide) h (fun h => ?_) (fun h => ?_)
      · exact g_sub (lv' := [(0, .ref (r q0)), (1, iv y1), (2, iv y2), (3, .long (shlL x3 8)), (5, iv x4)]) [1, 2, 3, 0, 4] rfl (hJ9 (shlL x3 8) t5 h)
      · refine g_iload_n X dX11_lettersOf_25 2 rfl ?_
        refine g_iload X dX11_lettersOf_26 4 rfl ?_
        refine g_iadd X dX11_lettersOf_28 ?_
        refine g_aload_n X dX11_lettersOf_29 1 rfl ?_
        refine g_alen0 X hq0 dX11_lettersOf_30 ?_
        refine g_icmp_ge (tgt := 48) X dX11_lettersOf_31 (by decide) h (fun h => ?_) (fun h => ?_)
        · exact g_sub (lv' := [(0, .ref (r q0)), (1, iv y1), (2, iv y2), (3, .long (shlL x3 8)), (5, iv x4)]) [1, 2, 3, 0, 4] rfl (hJ9 (shlL x3 8) t5 h)
        · refine g_lload_n X dX11_lettersOf_34 0 rfl ?_
          refine g_aload_n X dX11_lettersOf_35 1 rfl ?_
          refine g_iload_n X dX11_lettersOf_36 2 rfl ?_
          refine g_iload X dX11_lettersOf_37 4 rfl ?_
          refine g_iadd X dX11_lettersOf_39 ?_
          refine g_bald X hq0 dX11_lettersOf_40 h (fun v10 h => ?_)
          refine g_sipush X dX11_lettersOf_41 (by decide) ?_
          refine g_mask X 8 (by decide) (M := 256) (by decide) (by decide) dX11_lettersOf_44 ?_
          refine g_i2l X dX11_lettersOf_45 h (fun h => ?_)
          refine g_lor X dX11_lettersOf_46 ?_
          refine g_lstore_n (lv' := [(3, .long ((shlL x3 8) ||| (Int64.ofInt (v10 % 256)))), (0, .ref (r q0)), (1, iv y1), (2, iv y2), (5, iv x4)]) X dX11_lettersOf_47 rfl (by decide) rfl ?_
          exact g_sub (lv' := [(0, .ref (r q0)), (1, iv y1), (2, iv y2), (3, .long ((shlL x3 8) ||| (Int64.ofInt (v10 % 256)))), (5, iv x4)]) [1, 2, 3, 0, 4] rfl (hJ9 ((shlL x3 8) ||| (Int64.ofInt (v10 % 256))) t5 h)
set_option maxHeartbeats 4000000 in
set_option maxRecDepth 100000 in
theorem b_f_X11_lettersOf {p : Program} {l : Launch} {e : Env} {s : State} {m : MethodId} {args : Array Value} {below : List Frame} {meth : Method} {c : Code} {E : cE} {A : Nat → Prop} {r : Nat → Nat} {mc ms : Nat} {z : Int64 × St} {N : Nat} {q0 n0 : Nat} (hq0 : gA shH q0 0 n0) {a1 : Int} {a2 : Int} {t : St} (X : gX p s m meth c cX11_lettersOf 6 (some .long) yX11_lettersOf args E A) (h : f_X11_lettersOf N q0 n0 a1 a2 t = some z) : gP p l e rm_f_X11_lettersOf s m args below meth c E A 6 (MQ below ((gqL E (gW E r shH) z) A) args s mc ms A) (gW E r shH) 0 [(0, .ref (r q0)), (1, iv a1), (2, iv a2)] [] t := by
  unfold f_X11_lettersOf at h
  refine g_lconst (v := 0) X dX11_lettersOf_0 (by decide) ?_
  refine g_lstore_n (lv' := [(3, .long (0 : Int64)), (0, .ref (r q0)), (1, iv a1), (2, iv a2)]) X dX11_lettersOf_1 rfl (by decide) rfl ?_
  refine g_iconst X dX11_lettersOf_2 ?_
  refine g_istore (lv' := [(5, iv 0), (3, .long (0 : Int64)), (0, .ref (r q0)), (1, iv a1), (2, iv a2)]) X dX11_lettersOf_3 (by decide) rfl ?_
  refine g_sub (lv' := [(0, .ref (r q0)), (1, iv a1), (2, iv a2), (3, .long (0 : Int64)), (5, iv 0)]) [2, 3, 4, 1, 0] rfl (t_f_X11_lettersOf_L5 hq0 X (fun k11 t12 h => ?_) N (0 : Int64) 0 t h)
  · refine g_lload_n X dX11_lettersOf_54 0 rfl ?_
    exact g_lret X h dX11_lettersOf_55
set_option maxHeartbeats 4000000 in
set_option maxRecDepth 100000 in
theorem cp_X11_lettersOf (l : Launch) (E : cE) (r : Nat → Nat) (N : Nat) (q0 n0 : Nat) (hq0 : gA shH q0 0 n0) (a1 : Int) (a2 : Int) (t : St) (z : Int64 × St) (h : f_X11_lettersOf N q0 n0 a1 a2 t = some z) : cM l E yX11_lettersOf cX11_lettersOf 6 (some .long) rm_f_X11_lettersOf [.ref (r q0), iv a1, iv a2] (gW E r shH t) (gqL E (gW E r shH) z) := by
  refine g_of (w := gW E r shH) (by decide) (Nat.le_of_ble_eq_true rfl) ?_
  intro p e s m below meth c A X
  exact g_sub (lv' := [(0, .ref (r q0)), (1, iv a1), (2, iv a2)]) [0, 1, 2] rfl (b_f_X11_lettersOf hq0 X h)
theorem yy_X11_lettersOf : cY yX11_lettersOf cX11_lettersOf 6 (some .long) 3 := ⟨wdK_X11_lettersOf, wdZ_RX11, by decide +kernel⟩
theorem dX10_kindOfWord_0 : decode cX10_kindOfWord 0 = .ok (.iconst 0, 1) := by decide +kernel
theorem dX10_kindOfWord_1 : decode cX10_kindOfWord 1 = .ok (.istore_n 3, 1) := by decide +kernel
theorem dX10_kindOfWord_2 : decode cX10_kindOfWord 2 = .ok (.iload_n 3, 1) := by decide +kernel
theorem dX10_kindOfWord_3 : decode cX10_kindOfWord 3 = .ok (.bipush 38, 2) := by decide +kernel
theorem dX10_kindOfWord_5 : decode cX10_kindOfWord 5 = .ok (.if_icmp .ge 22, 3) := by decide +kernel
theorem dX10_kindOfWord_8 : decode cX10_kindOfWord 8 = .ok (.aload_n 0, 1) := by decide +kernel
theorem dX10_kindOfWord_9 : decode cX10_kindOfWord 9 = .ok (.getfield 15, 3) := by decide +kernel
theorem dX10_kindOfWord_12 : decode cX10_kindOfWord 12 = .ok (.iload_n 3, 1) := by decide +kernel
theorem dX10_kindOfWord_13 : decode cX10_kindOfWord 13 = .ok (.laload, 1) := by decide +kernel
theorem dX10_kindOfWord_14 : decode cX10_kindOfWord 14 = .ok (.lload_n 1, 1) := by decide +kernel
theorem dX10_kindOfWord_15 : decode cX10_kindOfWord 15 = .ok (.lcmp, 1) := by decide +kernel
theorem dX10_kindOfWord_16 : decode cX10_kindOfWord 16 = .ok (.ifCond .ne 5, 3) := by decide +kernel
theorem dX10_kindOfWord_19 : decode cX10_kindOfWord 19 = .ok (.iload_n 3, 1) := by decide +kernel
theorem dX10_kindOfWord_20 : decode cX10_kindOfWord 20 = .ok (.ireturn, 1) := by decide +kernel
theorem dX10_kindOfWord_21 : decode cX10_kindOfWord 21 = .ok (.iinc 3 1, 3) := by decide +kernel
theorem dX10_kindOfWord_24 : decode cX10_kindOfWord 24 = .ok (.goto (-22), 3) := by decide +kernel
theorem dX10_kindOfWord_27 : decode cX10_kindOfWord 27 = .ok (.bipush 38, 2) := by decide +kernel
theorem dX10_kindOfWord_29 : decode cX10_kindOfWord 29 = .ok (.ireturn, 1) := by decide +kernel
abbrev rm_f_X10_kindOfWord : Room := { frames := 0, cells := 0, slots := 0, locals := 0 }
def f_X10_kindOfWord_L2 (K4 : (St → Option (Int × St))) (y1 : Int64) : Nat → Int → St → Option (Int × St)
  | 0, _, _ => none
  | n9 + 1, x2, t3 =>
    cmpI x2 38 (if x2 < 38 then (ixI x2 38 (lt1 (t3.2 331 x2.toNat) fun v5 =>
    (if v5 = y1 then (some (x2, t3))
    else (f_X10_kindOfWord_L2 K4 y1 n9 (x2 + 1) t3))))
    else (K4 t3))
def f_X10_kindOfWord (N : Nat) (a0 : Int64) (t : St) : Option (Int × St) :=
    f_X10_kindOfWord_L2 (fun (t6 : St) => some (38, t6)) a0 N 0 t
set_option maxHeartbeats 4000000 in
set_option maxRecDepth 100000 in
theorem t_f_X10_kindOfWord_L2 {p : Program} {l : Launch} {e : Env} {s : State} {m : MethodId} {args : Array Value} {below : List Frame} {meth : Method} {c : Code} {E : cE} {A : Nat → Prop} {r : Nat → Nat} {mc ms : Nat} {z : Int × St} {K4 : (St → Option (Int × St))} {y1 : Int64} (X : gX p s m meth c cX10_kindOfWord 4 (some .int) yX10_kindOfWord args E A) (hK4 : ∀ (t9 : St), K4 t9 = some z → gP p l e rm_f_X10_kindOfWord s m args below meth c E A 4 (MQ below ((gqI E (gW E r shH) z) A) args s mc ms A) (gW E r shH) 27 [] [] t9) : ∀ (n9 : Nat) (x2 : Int) (t3 : St), f_X10_kindOfWord_L2 K4 y1 n9 x2 t3 = some z → gP p l e rm_f_X10_kindOfWord s m args below meth c E A 4 (MQ below ((gqI E (gW E r shH) z) A) args s mc ms A) (gW E r shH) 2 [(0, .ref (r 301)), (1, .long y1), (3, iv x2)] [] t3 := by
  intro n9
  induction n9 with
  | zero => intro x2 t3 h; cases h
  | succ n9 ih =>
    intro x2 t3 h
    unfold f_X10_kindOfWord_L2 at h
    refine g_iload_n X dX10_kindOfWord_2 2 rfl ?_
    refine g_bipush X dX10_kindOfWord_3 (by decide) ?_
    refine g_icmp_ge (tgt := 27) X dX10_kindOfWord_5 (by decide) h (fun h => ?_) (fun h => ?_)
    · exact g_sub (lv' := []) [] rfl (hK4 t3 h)
    · refine g_aload_n X dX10_kindOfWord_8 0 rfl ?_
      refine g_getR X fH_X10_15_301 rfl dX10_kindOfWord_9 ?_
      refine g_iload_n X dX10_kindOfWord_12 2 rfl ?_
      refine g_lald X aH_331 dX10_kindOfWord_13 h (fun v5 h => ?_)
      refine g_lload_n X dX10_kindOfWord_14 1 rfl ?_
      refine g_lcmp_ne (tgt := 21) X dX10_kindOfWord_15 dX10_kindOfWord_16 (by decide) h (fun h => ?_) (fun h => ?_)
      · refine g_iinc (lv' := [(3, iv (x2 + 1)), (0, .ref (r 301)), (1, .long y1)]) X dX10_kindOfWord_21 (k := 2) rfl (by decide) rfl ?_
        refine g_goto (tgt := 2) X dX10_kindOfWord_24 (by decide) ?_
        exact g_sub (lv' := [(0, .ref (r 301)), (1, .long y1), (3, iv (x2 + 1))]) [1, 2, 0] rfl (ih (x2 + 1) t3 h)
      · refine g_iload_n X dX10_kindOfWord_19 2 rfl ?_
        exact g_iret X h dX10_kindOfWord_20
set_option maxHeartbeats 4000000 in
set_option maxRecDepth 100000 in
theorem b_f_X10_kindOfWord {p : Program} {l : Launch} {e : Env} {s : State} {m : MethodId} {args : Array Value} {below : List Frame} {meth : Method} {c : Code} {E : cE} {A : Nat → Prop} {r : Nat → Nat} {mc ms : Nat} {z : Int × St} {N : Nat} {a0 : Int64} {t : St} (X : gX p s m meth c cX10_kindOfWord 4 (some .int) yX10_kindOfWord args E A) (h : f_X10_kindOfWord N a0 t = some z) : gP p l e rm_f_X10_kindOfWord s m args below meth c E A 4 (MQ below ((gqI E (gW E r shH) z) A) args s mc ms A) (gW E r shH) 0 [(0, .ref (r 301)), (1, .long a0)] [] t := by
  unfold f_X10_kindOfWord at h
  refine g_iconst X dX10_kindOfWord_0 ?_
  refine g_istore_n (lv' := [(3, iv 0), (0, .ref (r 301)), (1, .long a0)]) X dX10_kindOfWord_1 rfl (by decide) rfl ?_
  refine g_sub (lv' := [(0, .ref (r 301)), (1, .long a0), (3, iv 0)]) [1, 2, 0] rfl (t_f_X10_kindOfWord_L2 X (fun t6 h => ?_) N 0 t h)
  · refine g_bipush X dX10_kindOfWord_27 (by decide) ?_
    exact g_iret X h dX10_kindOfWord_29
set_option maxHeartbeats 4000000 in
set_option maxRecDepth 100000 in
theorem cp_X10_kindOfWord (l : Launch) (E : cE) (r : Nat → Nat) (N : Nat) (a0 : Int64) (t : St) (z : Int × St) (h : f_X10_kindOfWord N a0 t = some z) : cM l E yX10_kindOfWord cX10_kindOfWord 4 (some .int) rm_f_X10_kindOfWord [.ref (r 301), .long a0] (gW E r shH t) (gqI E (gW E r shH) z) := by
  refine g_of (w := gW E r shH) (by decide) (Nat.le_of_ble_eq_true rfl) ?_
  intro p e s m below meth c A X
  exact g_sub (lv' := [(0, .ref (r 301)), (1, .long a0)]) [0, 1] rfl (b_f_X10_kindOfWord X h)
theorem yy_X10_kindOfWord : cY yX10_kindOfWord cX10_kindOfWord 4 (some .int) 1 := ⟨wdK_X10_kindOfWord, wdZ_RX10, by decide +kernel⟩
theorem yi_X10_kindOfWord : cYi yX10_kindOfWord := ⟨wdN_X10_kindOfWord, wdS_X10_kindOfWord⟩
theorem dX10_readWord_0 : decode cX10_readWord 0 = .ok (.iload_n 1, 1) := by decide +kernel
theorem dX10_readWord_1 : decode cX10_readWord 1 = .ok (.iconst 1, 1) := by decide +kernel
theorem dX10_readWord_2 : decode cX10_readWord 2 = .ok (.iadd, 1) := by decide +kernel
theorem dX10_readWord_3 : decode cX10_readWord 3 = .ok (.istore_n 2, 1) := by decide +kernel
theorem dX10_readWord_4 : decode cX10_readWord 4 = .ok (.iload_n 2, 1) := by decide +kernel
theorem dX10_readWord_5 : decode cX10_readWord 5 = .ok (.aload_n 0, 1) := by decide +kernel
theorem dX10_readWord_6 : decode cX10_readWord 6 = .ok (.getfield 44, 3) := by decide +kernel
theorem dX10_readWord_9 : decode cX10_readWord 9 = .ok (.if_icmp .ge 41, 3) := by decide +kernel
theorem dX10_readWord_12 : decode cX10_readWord 12 = .ok (.aload_n 0, 1) := by decide +kernel
theorem dX10_readWord_13 : decode cX10_readWord 13 = .ok (.iload_n 2, 1) := by decide +kernel
theorem dX10_readWord_14 : decode cX10_readWord 14 = .ok (.invokevirtual 62, 3) := by decide +kernel
theorem dX10_readWord_17 : decode cX10_readWord 17 = .ok (.invokestatic 65, 3) := by decide +kernel
theorem dX10_readWord_20 : decode cX10_readWord 20 = .ok (.ifCond .ne 24, 3) := by decide +kernel
theorem dX10_readWord_23 : decode cX10_readWord 23 = .ok (.aload_n 0, 1) := by decide +kernel
theorem dX10_readWord_24 : decode cX10_readWord 24 = .ok (.iload_n 2, 1) := by decide +kernel
theorem dX10_readWord_25 : decode cX10_readWord 25 = .ok (.invokevirtual 62, 3) := by decide +kernel
theorem dX10_readWord_28 : decode cX10_readWord 28 = .ok (.invokestatic 72, 3) := by decide +kernel
theorem dX10_readWord_31 : decode cX10_readWord 31 = .ok (.ifCond .ne 13, 3) := by decide +kernel
theorem dX10_readWord_34 : decode cX10_readWord 34 = .ok (.aload_n 0, 1) := by decide +kernel
theorem dX10_readWord_35 : decode cX10_readWord 35 = .ok (.iload_n 2, 1) := by decide +kernel
theorem dX10_readWord_36 : decode cX10_readWord 36 = .ok (.invokevirtual 62, 3) := by decide +kernel
theorem dX10_readWord_39 : decode cX10_readWord 39 = .ok (.bipush 95, 2) := by decide +kernel
theorem dX10_readWord_41 : decode cX10_readWord 41 = .ok (.if_icmp .ne 9, 3) := by decide +kernel
theorem dX10_readWord_44 : decode cX10_readWord 44 = .ok (.iinc 2 1, 3) := by decide +kernel
theorem dX10_readWord_47 : decode cX10_readWord 47 = .ok (.goto (-43), 3) := by decide +kernel
theorem dX10_readWord_50 : decode cX10_readWord 50 = .ok (.iload_n 2, 1) := by decide +kernel
theorem dX10_readWord_51 : decode cX10_readWord 51 = .ok (.iload_n 1, 1) := by decide +kernel
theorem dX10_readWord_52 : decode cX10_readWord 52 = .ok (.isub, 1) := by decide +kernel
theorem dX10_readWord_53 : decode cX10_readWord 53 = .ok (.bipush 24, 2) := by decide +kernel
theorem dX10_readWord_55 : decode cX10_readWord 55 = .ok (.if_icmp .le 13, 3) := by decide +kernel
theorem dX10_readWord_58 : decode cX10_readWord 58 = .ok (.aload_n 0, 1) := by decide +kernel
theorem dX10_readWord_59 : decode cX10_readWord 59 = .ok (.bipush 49, 2) := by decide +kernel
theorem dX10_readWord_61 : decode cX10_readWord 61 = .ok (.iconst 0, 1) := by decide +kernel
theorem dX10_readWord_62 : decode cX10_readWord 62 = .ok (.iload_n 1, 1) := by decide +kernel
theorem dX10_readWord_63 : decode cX10_readWord 63 = .ok (.invokevirtual 58, 3) := by decide +kernel
theorem dX10_readWord_66 : decode cX10_readWord 66 = .ok (.iconst (-1), 1) := by decide +kernel
theorem dX10_readWord_67 : decode cX10_readWord 67 = .ok (.ireturn, 1) := by decide +kernel
theorem dX10_readWord_68 : decode cX10_readWord 68 = .ok (.iconst 0, 1) := by decide +kernel
theorem dX10_readWord_69 : decode cX10_readWord 69 = .ok (.istore_n 3, 1) := by decide +kernel
theorem dX10_readWord_70 : decode cX10_readWord 70 = .ok (.iload_n 3, 1) := by decide +kernel
theorem dX10_readWord_71 : decode cX10_readWord 71 = .ok (.iconst 3, 1) := by decide +kernel
theorem dX10_readWord_72 : decode cX10_readWord 72 = .ok (.if_icmp .ge 52, 3) := by decide +kernel
theorem dX10_readWord_75 : decode cX10_readWord 75 = .ok (.iconst 3, 1) := by decide +kernel
theorem dX10_readWord_76 : decode cX10_readWord 76 = .ok (.aload_n 0, 1) := by decide +kernel
theorem dX10_readWord_77 : decode cX10_readWord 77 = .ok (.getfield 48, 3) := by decide +kernel
theorem dX10_readWord_80 : decode cX10_readWord 80 = .ok (.imul, 1) := by decide +kernel
theorem dX10_readWord_81 : decode cX10_readWord 81 = .ok (.iload_n 3, 1) := by decide +kernel
theorem dX10_readWord_82 : decode cX10_readWord 82 = .ok (.iadd, 1) := by decide +kernel
theorem dX10_readWord_83 : decode cX10_readWord 83 = .ok (.aload_n 0, 1) := by decide +kernel
theorem dX10_readWord_84 : decode cX10_readWord 84 = .ok (.getfield 29, 3) := by decide +kernel
theorem dX10_readWord_87 : decode cX10_readWord 87 = .ok (.arraylength, 1) := by decide +kernel
theorem dX10_readWord_88 : decode cX10_readWord 88 = .ok (.if_icmp .ge 36, 3) := by decide +kernel
theorem dX10_readWord_91 : decode cX10_readWord 91 = .ok (.aload_n 0, 1) := by decide +kernel
theorem dX10_readWord_92 : decode cX10_readWord 92 = .ok (.getfield 29, 3) := by decide +kernel
theorem dX10_readWord_95 : decode cX10_readWord 95 = .ok (.iconst 3, 1) := by decide +kernel
theorem dX10_readWord_96 : decode cX10_readWord 96 = .ok (.aload_n 0, 1) := by decide +kernel
theorem dX10_readWord_97 : decode cX10_readWord 97 = .ok (.getfield 48, 3) := by decide +kernel
theorem dX10_readWord_100 : decode cX10_readWord 100 = .ok (.imul, 1) := by decide +kernel
theorem dX10_readWord_101 : decode cX10_readWord 101 = .ok (.iload_n 3, 1) := by decide +kernel
theorem dX10_readWord_102 : decode cX10_readWord 102 = .ok (.iadd, 1) := by decide +kernel
theorem dX10_readWord_103 : decode cX10_readWord 103 = .ok (.aload_n 0, 1) := by decide +kernel
theorem dX10_readWord_104 : decode cX10_readWord 104 = .ok (.getfield 9, 3) := by decide +kernel
theorem dX10_readWord_107 : decode cX10_readWord 107 = .ok (.iload_n 1, 1) := by decide +kernel
theorem dX10_readWord_108 : decode cX10_readWord 108 = .ok (.bipush 8, 2) := by decide +kernel
theorem dX10_readWord_110 : decode cX10_readWord 110 = .ok (.iload_n 3, 1) := by decide +kernel
theorem dX10_readWord_111 : decode cX10_readWord 111 = .ok (.imul, 1) := by decide +kernel
theorem dX10_readWord_112 : decode cX10_readWord 112 = .ok (.iadd, 1) := by decide +kernel
theorem dX10_readWord_113 : decode cX10_readWord 113 = .ok (.iload_n 2, 1) := by decide +kernel
theorem dX10_readWord_114 : decode cX10_readWord 114 = .ok (.invokestatic 83, 3) := by decide +kernel
theorem dX10_readWord_117 : decode cX10_readWord 117 = .ok (.lastore, 1) := by decide +kernel
theorem dX10_readWord_118 : decode cX10_readWord 118 = .ok (.iinc 3 1, 3) := by decide +kernel
theorem dX10_readWord_121 : decode cX10_readWord 121 = .ok (.goto (-51), 3) := by decide +kernel
theorem dX10_readWord_124 : decode cX10_readWord 124 = .ok (.aload_n 0, 1) := by decide +kernel
theorem dX10_readWord_125 : decode cX10_readWord 125 = .ok (.iload_n 2, 1) := by decide +kernel
theorem dX10_readWord_126 : decode cX10_readWord 126 = .ok (.iload_n 1, 1) := by decide +kernel
theorem dX10_readWord_127 : decode cX10_readWord 127 = .ok (.isub, 1) := by decide +kernel
theorem dX10_readWord_128 : decode cX10_readWord 128 = .ok (.bipush 8, 2) := by decide +kernel
theorem dX10_readWord_130 : decode cX10_readWord 130 = .ok (.if_icmp .le 8, 3) := by decide +kernel
theorem dX10_readWord_133 : decode cX10_readWord 133 = .ok (.bipush 38, 2) := by decide +kernel
theorem dX10_readWord_135 : decode cX10_readWord 135 = .ok (.goto 16, 3) := by decide +kernel
theorem dX10_readWord_138 : decode cX10_readWord 138 = .ok (.aload_n 0, 1) := by decide +kernel
theorem dX10_readWord_139 : decode cX10_readWord 139 = .ok (.aload_n 0, 1) := by decide +kernel
theorem dX10_readWord_140 : decode cX10_readWord 140 = .ok (.getfield 9, 3) := by decide +kernel
theorem dX10_readWord_143 : decode cX10_readWord 143 = .ok (.iload_n 1, 1) := by decide +kernel
theorem dX10_readWord_144 : decode cX10_readWord 144 = .ok (.iload_n 2, 1) := by decide +kernel
theorem dX10_readWord_145 : decode cX10_readWord 145 = .ok (.invokestatic 83, 3) := by decide +kernel
theorem dX10_readWord_148 : decode cX10_readWord 148 = .ok (.invokevirtual 87, 3) := by decide +kernel
theorem dX10_readWord_151 : decode cX10_readWord 151 = .ok (.iconst 0, 1) := by decide +kernel
theorem dX10_readWord_152 : decode cX10_readWord 152 = .ok (.iload_n 1, 1) := by decide +kernel
theorem dX10_readWord_153 : decode cX10_readWord 153 = .ok (.invokevirtual 58, 3) := by decide +kernel
theorem dX10_readWord_156 : decode cX10_readWord 156 = .ok (.iload_n 2, 1) := by decide +kernel
theorem dX10_readWord_157 : decode cX10_readWord 157 = .ok (.ireturn, 1) := by decide +kernel
abbrev rm_f_X10_readWord : Room := { frames := 1, cells := 0, slots := 0, locals := 25 }
def f_X10_readWord_L4 (N : Nat) (K4 : (Int → St → Option (Int × St))) : Nat → Int → St → Option (Int × St)
  | 0, _, _ => none
  | n9 + 1, x2, t3 =>
    lt1 (t3.1 301 1) fun v5 =>
    cmpI x2 v5 (if x2 < v5 then (bdI (f_X10_byteAt N x2 t3) fun v7 t6 =>
    bdI (f_X10_isLetter N v7 t6) fun v9 t8 =>
    jn1 (fun (t10 : St) => f_X10_readWord_L4 N K4 n9 (x2 + 1) t10) fun J11 =>
    cmpI v9 0 (if v9 = 0 then (bdI (f_X10_byteAt N x2 t8) fun v13 t12 =>
    bdI (f_X10_isDigit N v13 t12) fun v15 t14 =>
    cmpI v15 0 (if v15 = 0 then (bdI (f_X10_byteAt N x2 t14) fun v17 t16 =>
    cmpI v17 95 (if v17 = 95 then (J11 t16)
    else (K4 x2 t16)))
    else (J11 t14)))
    else (J11 t8)))
    else (K4 x2 t3))
def f_X10_readWord_L70 (N : Nat) (K24 : (St → Option (Int × St))) (y20 : Int) (y21 : Int) : Nat → Int → St → Option (Int × St)
  | 0, _, _ => none
  | n9 + 1, x22, t23 =>
    cmpI x22 3 (if x22 < 3 then (lt1 (t23.1 301 7) fun v25 =>
    cmpI ((3 * v25) + x22) 12294 (if ((3 * v25) + x22) < 12294 then (lt1 (t23.1 301 7) fun v26 =>
    bdL (f_X11_lettersOf N 330 4096 (y20 + (8 * x22)) y21 t23) fun v28 t27 =>
    ixI ((3 * v26) + x22) 12294 (lt1 (pL t27 335 ((3 * v26) + x22).toNat v28) fun t29 =>
    f_X10_readWord_L70 N K24 y20 y21 n9 (x22 + 1) t29))
    else (K24 t23)))
    else (K24 t23))
def f_X10_readWord (N : Nat) (a0 : Int) (t : St) : Option (Int × St) :=
    f_X10_readWord_L4 N (fun (k18 : Int) (t19 : St) => cmpI (k18 - a0) 24 (if 24 < (k18 - a0) then (bdV (f_X10_put N 49 0 a0 t19) fun t39 =>
    some ((-1), t39))
    else (f_X10_readWord_L70 N (fun (t30 : St) => jn1 (fun (j31 : Int) (t32 : St) => bdV (f_X10_put N j31 0 a0 t32) fun t34 =>
    some (k18, t34)) fun J33 =>
    cmpI (k18 - a0) 8 (if 8 < (k18 - a0) then (J33 38 t30)
    else (bdL (f_X11_lettersOf N 330 4096 a0 k18 t30) fun v36 t35 =>
    bdI (f_X10_kindOfWord N v36 t35) fun v38 t37 =>
    J33 v38 t37))) a0 k18 N 0 t19))) N (a0 + 1) t
set_option maxHeartbeats 4000000 in
set_option maxRecDepth 100000 in
theorem t_f_X10_readWord_L4 {p : Program} {l : Launch} {e : Env} {s : State} {m : MethodId} {args : Array Value} {below : List Frame} {meth : Method} {c : Code} {E : cE} {A : Nat → Prop} {r : Nat → Nat} {mc ms : Nat} {z : Int × St} {N : Nat} {K4 : (Int → St → Option (Int × St))} {y1 : Int} (X : gX p s m meth c cX10_readWord 4 (some .int) yX10_readWord args E A) (hK4 : ∀ (q2 : Int) (t9 : St), K4 q2 t9 = some z → gP p l e rm_f_X10_readWord s m args below meth c E A 4 (MQ below ((gqI E (gW E r shH) z) A) args s mc ms A) (gW E r shH) 50 [(0, .ref (r 301)), (1, iv y1), (2, iv q2)] [] t9) : ∀ (n9 : Nat) (x2 : Int) (t3 : St), f_X10_readWord_L4 N K4 n9 x2 t3 = some z → gP p l e rm_f_X10_readWord s m args below meth c E A 4 (MQ below ((gqI E (gW E r shH) z) A) args s mc ms A) (gW E r shH) 4 [(0, .ref (r 301)), (1, iv y1), (2, iv x2)] [] t3 := by
  intro n9
  induction n9 with
  | zero => intro x2 t3 h; cases h
  | succ n9 ih =>
    intro x2 t3 h
    unfold f_X10_readWord_L4 at h
    refine g_iload_n X dX10_readWord_4 2 rfl ?_
    refine g_aload_n X dX10_readWord_5 0 rfl ?_
    refine g_getI X fH_X10_44_301 rfl dX10_readWord_6 h (fun v5 h => ?_)
    refine g_icmp_ge (tgt := 50) X dX10_readWord_9 (by decide) h (fun h => ?_) (fun h => ?_)
    · exact g_sub (lv' := [(0, .ref (r 301)), (1, iv y1), (2, iv x2)]) [0, 1, 2] rfl (hK4 x2 t3 h)
    · refine g_aload_n X dX10_readWord_12 0 rfl ?_
      refine g_iload_n X dX10_readWord_13 2 rfl ?_
      refine g_callOI (rest := []) X (fun u9 h9 => cp_X10_byteAt l E r N x2 t3 u9 h9) yy_X10_byteAt yi_X10_byteAt wdM_RX10_62 ⟨_, _, oH_301⟩ rfl rfl rfl (Nat.le_of_ble_eq_true rfl) dX10_readWord_14 ⟨by decide, by decide⟩ ⟨rfl, rfl⟩ h (fun v7 t6 h => ?_)
      refine g_callsI (rest := []) X (fun u9 h9 => cp_X10_isLetter l E r N v7 t6 u9 h9) yy_X10_isLetter wdT_X10_isLetter wdM_RX10_65 rfl rfl (Nat.le_of_ble_eq_true rfl) dX10_readWord_17 ⟨by decide, by decide⟩ ⟨rfl, rfl⟩ h (fun v9 t8 h => ?_)
      refine g_join (J := fun jj => ∀ (t10 : St), jj  t10 = some z → gP p l e rm_f_X10_readWord s m args below meth c E A 4 (MQ below ((gqI E (gW E r shH) z) A) args s mc ms A) (gW E r shH) 44 [(0, .ref (r 301)), (1, iv y1), (2, iv x2)] [] t10) h (fun  t10 h => ?_) (fun J11 hJ11 h => ?_)
      · refine g_iinc (lv' := [(2, iv (x2 + 1)), (0, .ref (r 301)), (1, iv y1)]) X dX10_readWord_44 (k := 2) rfl (by decide) rfl ?_
        refine g_goto (tgt := 4) X dX10_readWord_47 (by decide) ?_
        exact g_sub (lv' := [(0, .ref (r 301)), (1, iv y1), (2, iv (x2 + 1))]) [1, 2, 0] rfl (ih (x2 + 1) t10 h)
      refine g_if_ne (tgt := 44) X dX10_readWord_20 (by decide) h (fun h => ?_) (fun h => ?_)
      · exact g_sub (lv' := [(0, .ref (r 301)), (1, iv y1), (2, iv x2)]) [0, 1, 2] rfl (hJ11 t8 h)
      · refine g_aload_n X dX10_readWord_23 0 rfl ?_
        refine g_iload_n X dX10_readWord_24 2 rfl ?_
        refine g_callOI (rest := []) X (fun u9 h9 => cp_X10_byteAt l E r N x2 t8 u9 h9) yy_X10_byteAt yi_X10_byteAt wdM_RX10_62 ⟨_, _, oH_301⟩ rfl rfl rfl (Nat.le_of_ble_eq_true rfl) dX10_readWord_25 ⟨by decide, by decide⟩ ⟨rfl, rfl⟩ h (fun v13 t12 h => ?_)
        refine g_callsI (rest := []) X (fun u9 h9 => cp_X10_isDigit l E r N v13 t12 u9 h9) yy_X10_isDigit wdT_X10_isDigit wdM_RX10_72 rfl rfl (Nat.le_of_ble_eq_true rfl) dX10_readWord_28 ⟨by decide, by decide⟩ ⟨rfl, rfl⟩ h (fun v15 t14 h => ?_)
        refine g_if_ne (tgt := 44) X dX10_readWord_31 (by decide) h (fun h => ?_) (fun h => ?_)
        · exact g_sub (lv' := [(0, .ref (r 301)), (1, iv y1), (2, iv x2)]) [0, 1, 2] rfl (hJ11 t14 h)
        · refine g_aload_n X dX10_readWord_34 0 rfl ?_
          refine g_iload_n X dX10_readWord_35 2 rfl ?_
          refine g_callOI (rest := []) X (fun u9 h9 => cp_X10_byteAt l E r N x2 t14 u9 h9) yy_X10_byteAt yi_X10_byteAt wdM_RX10_62 ⟨_, _, oH_301⟩ rfl rfl rfl (Nat.le_of_ble_eq_true rfl) dX10_readWord_36 ⟨by decide, by decide⟩ ⟨rfl, rfl⟩ h (fun v17 t16 h => ?_)
          refine g_bipush X dX10_readWord_39 (by decide) ?_
          refine g_icmp_ne (tgt := 50) X dX10_readWord_41 (by decide) h (fun h => ?_) (fun h => ?_)
          · exact g_sub (lv' := [(0, .ref (r 301)), (1, iv y1), (2, iv x2)]) [0, 1, 2] rfl (hK4 x2 t16 h)
          · exact g_sub (lv' := [(0, .ref (r 301)), (1, iv y1), (2, iv x2)]) [0, 1, 2] rfl (hJ11 t16 h)
set_option maxHeartbeats 4000000 in
set_option maxRecDepth 100000 in
theorem t_f_X10_readWord_L70 {p : Program} {l : Launch} {e : Env} {s : State} {m : MethodId} {args : Array Value} {below : List Frame} {meth : Method} {c : Code} {E : cE} {A : Nat → Prop} {r : Nat → Nat} {mc ms : Nat} {z : Int × St} {N : Nat} {K24 : (St → Option (Int × St))} {y20 : Int} {y21 : Int} (X : gX p s m meth c cX10_readWord 4 (some .int) yX10_readWord args E A) (hK24 : ∀ (t9 : St), K24 t9 = some z → gP p l e rm_f_X10_readWord s m args below meth c E A 4 (MQ below ((gqI E (gW E r shH) z) A) args s mc ms A) (gW E r shH) 124 [(0, .ref (r 301)), (1, iv y20), (2, iv y21)] [] t9) : ∀ (n9 : Nat) (x22 : Int) (t23 : St), f_X10_readWord_L70 N K24 y20 y21 n9 x22 t23 = some z → gP p l e rm_f_X10_readWord s m args below meth c E A 4 (MQ below ((gqI E (gW E r shH) z) A) args s mc ms A) (gW E r shH) 70 [(0, .ref (r 301)), (1, iv y20), (2, iv y21), (3, iv x22)] [] t23 := by
  intro n9
  induction n9 with
  | zero => intro x22 t23 h; cases h
  | succ n9 ih =>
    intro x22 t23 h
    unfold f_X10_readWord_L70 at h
    refine g_iload_n X dX10_readWord_70 3 rfl ?_
    refine g_iconst X dX10_readWord_71 ?_
    refine g_icmp_ge (tgt := 124) X dX10_readWord_72 (by decide) h (fun h => ?_) (fun h => ?_)
    · exact g_sub (lv' := [(0, .ref (r 301)), (1, iv y20), (2, iv y21)]) [0, 1, 2] rfl (hK24 t23 h)
    · refine g_iconst X dX10_readWord_75 ?_
      refine g_aload_n X dX10_readWord_76 0 rfl ?_
      refine g_getI X fH_X10_48_301 rfl dX10_readWord_77 h (fun v25 h => ?_)
      refine g_imul X dX10_readWord_80 ?_
      refine g_iload_n X dX10_readWord_81 3 rfl ?_
      refine g_iadd X dX10_readWord_82 ?_
      refine g_aload_n X dX10_readWord_83 0 rfl ?_
      refine g_getR X fH_X10_29_301 rfl dX10_readWord_84 ?_
      refine g_alen2 X aH_335 dX10_readWord_87 ?_
      refine g_icmp_ge (tgt := 124) X dX10_readWord_88 (by decide) h (fun h => ?_) (fun h => ?_)
      · exact g_sub (lv' := [(0, .ref (r 301)), (1, iv y20), (2, iv y21)]) [0, 1, 2] rfl (hK24 t23 h)
      · refine g_aload_n X dX10_readWord_91 0 rfl ?_
        refine g_getR X fH_X10_29_301 rfl dX10_readWord_92 ?_
        refine g_iconst X dX10_readWord_95 ?_
        refine g_aload_n X dX10_readWord_96 0 rfl ?_
        refine g_getI X fH_X10_48_301 rfl dX10_readWord_97 h (fun v26 h => ?_)
        refine g_imul X dX10_readWord_100 ?_
        refine g_iload_n X dX10_readWord_101 3 rfl ?_
        refine g_iadd X dX10_readWord_102 ?_
        refine g_aload_n X dX10_readWord_103 0 rfl ?_
        refine g_getR X fH_X10_9_301 rfl dX10_readWord_104 ?_
        refine g_iload_n X dX10_readWord_107 1 rfl ?_
        refine g_bipush X dX10_readWord_108 (by decide) ?_
        refine g_iload_n X dX10_readWord_110 3 rfl ?_
        refine g_imul X dX10_readWord_111 ?_
        refine g_iadd X dX10_readWord_112 ?_
        refine g_iload_n X dX10_readWord_113 2 rfl ?_
        refine g_callsNL (rest := [iv ((3 * v26) + x22), .ref (r 335)]) X (fun u9 h9 => cp_X11_lettersOf l E r N 330 4096 aH_330 (y20 + (8 * x22)) y21 t23 u9 h9) yy_X11_lettersOf wdT_X11_lettersOf (gZn X) rfl rfl (Nat.le_of_ble_eq_true rfl) dX10_readWord_114 ⟨by decide, by decide⟩ ⟨rfl, rfl⟩ h (fun v28 t27 h => ?_)
        refine g_last X aH_335 dX10_readWord_117 h (fun t29 h => ?_)
        refine g_iinc (lv' := [(3, iv (x22 + 1)), (0, .ref (r 301)), (1, iv y20), (2, iv y21)]) X dX10_readWord_118 (k := 3) rfl (by decide) rfl ?_
        refine g_goto (tgt := 70) X dX10_readWord_121 (by decide) ?_
        exact g_sub (lv' := [(0, .ref (r 301)), (1, iv y20), (2, iv y21), (3, iv (x22 + 1))]) [1, 2, 3, 0] rfl (ih (x22 + 1) t29 h)
set_option maxHeartbeats 4000000 in
set_option maxRecDepth 100000 in
theorem b_f_X10_readWord {p : Program} {l : Launch} {e : Env} {s : State} {m : MethodId} {args : Array Value} {below : List Frame} {meth : Method} {c : Code} {E : cE} {A : Nat → Prop} {r : Nat → Nat} {mc ms : Nat} {z : Int × St} {N : Nat} {a0 : Int} {t : St} (X : gX p s m meth c cX10_readWord 4 (some .int) yX10_readWord args E A) (h : f_X10_readWord N a0 t = some z) : gP p l e rm_f_X10_readWord s m args below meth c E A 4 (MQ below ((gqI E (gW E r shH) z) A) args s mc ms A) (gW E r shH) 0 [(0, .ref (r 301)), (1, iv a0)] [] t := by
  unfold f_X10_readWord at h
  refine g_iload_n X dX10_readWord_0 1 rfl ?_
  refine g_iconst X dX10_readWord_1 ?_
  refine g_iadd X dX10_readWord_2 ?_
  refine g_istore_n (lv' := [(2, iv (a0 + 1)), (0, .ref (r 301)), (1, iv a0)]) X dX10_readWord_3 rfl (by decide) rfl ?_
  refine g_sub (lv' := [(0, .ref (r 301)), (1, iv a0), (2, iv (a0 + 1))]) [1, 2, 0] rfl (t_f_X10_readWord_L4 X (fun k18 t19 h => ?_) N (a0 + 1) t h)
  · refine g_iload_n X dX10_readWord_50 2 rfl ?_
    refine g_iload_n X dX10_readWord_51 1 rfl ?_
    refine g_isub X dX10_readWord_52 ?_
    refine g_bipush X dX10_readWord_53 (by decide) ?_
    refine g_icmp_le (tgt := 68) X dX10_readWord_55 (by decide) h (fun h => ?_) (fun h => ?_)
    · refine g_iconst X dX10_readWord_68 ?_
      refine g_istore_n (lv' := [(3, iv 0), (0, .ref (r 301)), (1, iv a0), (2, iv k18)]) X dX10_readWord_69 rfl (by decide) rfl ?_
      refine g_sub (lv' := [(0, .ref (r 301)), (1, iv a0), (2, iv k18), (3, iv 0)]) [1, 2, 3, 0] rfl (t_f_X10_readWord_L70 X (fun t30 h => ?_) N 0 t19 h)
      · refine g_aload_n X dX10_readWord_124 0 rfl ?_
        refine g_iload_n X dX10_readWord_125 2 rfl ?_
        refine g_iload_n X dX10_readWord_126 1 rfl ?_
        refine g_isub X dX10_readWord_127 ?_
        refine g_bipush X dX10_readWord_128 (by decide) ?_
        refine g_join (J := fun jj => ∀ (j31 : Int) (t32 : St), jj j31 t32 = some z → gP p l e rm_f_X10_readWord s m args below meth c E A 4 (MQ below ((gqI E (gW E r shH) z) A) args s mc ms A) (gW E r shH) 151 [(1, iv a0), (2, iv k18)] [iv j31, .ref (r 301)] t32) h (fun j31 t32 h => ?_) (fun J33 hJ33 h => ?_)
        · refine g_iconst X dX10_readWord_151 ?_
          refine g_iload_n X dX10_readWord_152 0 rfl ?_
          refine g_callOV (rest := []) X (fun u9 h9 => cp_X10_put l E r N j31 0 a0 t32 u9 h9) yy_X10_put yi_X10_put wdM_RX10_58 ⟨_, _, oH_301⟩ rfl rfl rfl (Nat.le_of_ble_eq_true rfl) dX10_readWord_153 ⟨by decide, by decide⟩ ⟨rfl, rfl⟩ h (fun t34 h => ?_)
          refine g_iload_n X dX10_readWord_156 1 rfl ?_
          exact g_iret X h dX10_readWord_157
        refine g_icmp_le (tgt := 138) X dX10_readWord_130 (by decide) h (fun h => ?_) (fun h => ?_)
        · refine g_aload_n X dX10_readWord_138 0 rfl ?_
          refine g_aload_n X dX10_readWord_139 0 rfl ?_
          refine g_getR X fH_X10_9_301 rfl dX10_readWord_140 ?_
          refine g_iload_n X dX10_readWord_143 1 rfl ?_
          refine g_iload_n X dX10_readWord_144 2 rfl ?_
          refine g_callsNL (rest := [.ref (r 301), .ref (r 301)]) X (fun u9 h9 => cp_X11_lettersOf l E r N 330 4096 aH_330 a0 k18 t30 u9 h9) yy_X11_lettersOf wdT_X11_lettersOf (gZn X) rfl rfl (Nat.le_of_ble_eq_true rfl) dX10_readWord_145 ⟨by decide, by decide⟩ ⟨rfl, rfl⟩ h (fun v36 t35 h => ?_)
          refine g_callOI (rest := [.ref (r 301)]) X (fun u9 h9 => cp_X10_kindOfWord l E r N v36 t35 u9 h9) yy_X10_kindOfWord yi_X10_kindOfWord wdM_RX10_87 ⟨_, _, oH_301⟩ rfl rfl rfl (Nat.le_of_ble_eq_true rfl) dX10_readWord_148 ⟨by decide, by decide⟩ ⟨rfl, rfl⟩ h (fun v38 t37 h => ?_)
          exact g_sub (lv' := [(1, iv a0), (2, iv k18)]) [1, 2] rfl (hJ33 v38 t37 h)
        · refine g_bipush X dX10_readWord_133 (by decide) ?_
          refine g_goto (tgt := 151) X dX10_readWord_135 (by decide) ?_
          exact g_sub (lv' := [(1, iv a0), (2, iv k18)]) [1, 2] rfl (hJ33 38 t30 h)
    · refine g_aload_n X dX10_readWord_58 0 rfl ?_
      refine g_bipush X dX10_readWord_59 (by decide) ?_
      refine g_iconst X dX10_readWord_61 ?_
      refine g_iload_n X dX10_readWord_62 1 rfl ?_
      refine g_callOV (rest := []) X (fun u9 h9 => cp_X10_put l E r N 49 0 a0 t19 u9 h9) yy_X10_put yi_X10_put wdM_RX10_58 ⟨_, _, oH_301⟩ rfl rfl rfl (Nat.le_of_ble_eq_true rfl) dX10_readWord_63 ⟨by decide, by decide⟩ ⟨rfl, rfl⟩ h (fun t39 h => ?_)
      refine g_iconst X dX10_readWord_66 ?_
      exact g_iret X h dX10_readWord_67
set_option maxHeartbeats 4000000 in
set_option maxRecDepth 100000 in
theorem cp_X10_readWord (l : Launch) (E : cE) (r : Nat → Nat) (N : Nat) (a0 : Int) (t : St) (z : Int × St) (h : f_X10_readWord N a0 t = some z) : cM l E yX10_readWord cX10_readWord 4 (some .int) rm_f_X10_readWord [.ref (r 301), iv a0] (gW E r shH t) (gqI E (gW E r shH) z) := by
  refine g_of (w := gW E r shH) (by decide) (Nat.le_of_ble_eq_true rfl) ?_
  intro p e s m below meth c A X
  exact g_sub (lv' := [(0, .ref (r 301)), (1, iv a0)]) [0, 1] rfl (b_f_X10_readWord X h)
theorem yy_X10_readWord : cY yX10_readWord cX10_readWord 4 (some .int) 1 := ⟨wdK_X10_readWord, wdZ_RX10, by decide +kernel⟩
theorem yi_X10_readWord : cYi yX10_readWord := ⟨wdN_X10_readWord, wdS_X10_readWord⟩
theorem dX10_readNumber_0 : decode cX10_readNumber 0 = .ok (.aload_n 0, 1) := by decide +kernel
theorem dX10_readNumber_1 : decode cX10_readNumber 1 = .ok (.iload_n 1, 1) := by decide +kernel
theorem dX10_readNumber_2 : decode cX10_readNumber 2 = .ok (.invokevirtual 62, 3) := by decide +kernel
theorem dX10_readNumber_5 : decode cX10_readNumber 5 = .ok (.bipush 45, 2) := by decide +kernel
theorem dX10_readNumber_7 : decode cX10_readNumber 7 = .ok (.if_icmp .ne 7, 3) := by decide +kernel
theorem dX10_readNumber_10 : decode cX10_readNumber 10 = .ok (.iconst 1, 1) := by decide +kernel
theorem dX10_readNumber_11 : decode cX10_readNumber 11 = .ok (.goto 4, 3) := by decide +kernel
theorem dX10_readNumber_14 : decode cX10_readNumber 14 = .ok (.iconst 0, 1) := by decide +kernel
theorem dX10_readNumber_15 : decode cX10_readNumber 15 = .ok (.istore_n 2, 1) := by decide +kernel
theorem dX10_readNumber_16 : decode cX10_readNumber 16 = .ok (.iload_n 2, 1) := by decide +kernel
theorem dX10_readNumber_17 : decode cX10_readNumber 17 = .ok (.ifCond .eq 9, 3) := by decide +kernel
theorem dX10_readNumber_20 : decode cX10_readNumber 20 = .ok (.iload_n 1, 1) := by decide +kernel
theorem dX10_readNumber_21 : decode cX10_readNumber 21 = .ok (.iconst 1, 1) := by decide +kernel
theorem dX10_readNumber_22 : decode cX10_readNumber 22 = .ok (.iadd, 1) := by decide +kernel
theorem dX10_readNumber_23 : decode cX10_readNumber 23 = .ok (.goto 4, 3) := by decide +kernel
theorem dX10_readNumber_26 : decode cX10_readNumber 26 = .ok (.iload_n 1, 1) := by decide +kernel
theorem dX10_readNumber_27 : decode cX10_readNumber 27 = .ok (.istore_n 3, 1) := by decide +kernel
theorem dX10_readNumber_28 : decode cX10_readNumber 28 = .ok (.iload_n 3, 1) := by decide +kernel
theorem dX10_readNumber_29 : decode cX10_readNumber 29 = .ok (.istore 4, 2) := by decide +kernel
theorem dX10_readNumber_31 : decode cX10_readNumber 31 = .ok (.iconst 0, 1) := by decide +kernel
theorem dX10_readNumber_32 : decode cX10_readNumber 32 = .ok (.istore 5, 2) := by decide +kernel
theorem dX10_readNumber_34 : decode cX10_readNumber 34 = .ok (.iload 4, 2) := by decide +kernel
theorem dX10_readNumber_36 : decode cX10_readNumber 36 = .ok (.aload_n 0, 1) := by decide +kernel
theorem dX10_readNumber_37 : decode cX10_readNumber 37 = .ok (.getfield 44, 3) := by decide +kernel
theorem dX10_readNumber_40 : decode cX10_readNumber 40 = .ok (.if_icmp .ge 46, 3) := by decide +kernel
theorem dX10_readNumber_43 : decode cX10_readNumber 43 = .ok (.aload_n 0, 1) := by decide +kernel
theorem dX10_readNumber_44 : decode cX10_readNumber 44 = .ok (.iload 4, 2) := by decide +kernel
theorem dX10_readNumber_46 : decode cX10_readNumber 46 = .ok (.invokevirtual 62, 3) := by decide +kernel
theorem dX10_readNumber_49 : decode cX10_readNumber 49 = .ok (.invokestatic 72, 3) := by decide +kernel
theorem dX10_readNumber_52 : decode cX10_readNumber 52 = .ok (.ifCond .eq 34, 3) := by decide +kernel
theorem dX10_readNumber_55 : decode cX10_readNumber 55 = .ok (.iload 4, 2) := by decide +kernel
theorem dX10_readNumber_57 : decode cX10_readNumber 57 = .ok (.iload_n 3, 1) := by decide +kernel
theorem dX10_readNumber_58 : decode cX10_readNumber 58 = .ok (.isub, 1) := by decide +kernel
theorem dX10_readNumber_59 : decode cX10_readNumber 59 = .ok (.iconst 5, 1) := by decide +kernel
theorem dX10_readNumber_60 : decode cX10_readNumber 60 = .ok (.if_icmp .ge 20, 3) := by decide +kernel
theorem dX10_readNumber_63 : decode cX10_readNumber 63 = .ok (.bipush 10, 2) := by decide +kernel
theorem dX10_readNumber_65 : decode cX10_readNumber 65 = .ok (.iload 5, 2) := by decide +kernel
theorem dX10_readNumber_67 : decode cX10_readNumber 67 = .ok (.imul, 1) := by decide +kernel
theorem dX10_readNumber_68 : decode cX10_readNumber 68 = .ok (.aload_n 0, 1) := by decide +kernel
theorem dX10_readNumber_69 : decode cX10_readNumber 69 = .ok (.iload 4, 2) := by decide +kernel
theorem dX10_readNumber_71 : decode cX10_readNumber 71 = .ok (.invokevirtual 62, 3) := by decide +kernel
theorem dX10_readNumber_74 : decode cX10_readNumber 74 = .ok (.iadd, 1) := by decide +kernel
theorem dX10_readNumber_75 : decode cX10_readNumber 75 = .ok (.bipush 48, 2) := by decide +kernel
theorem dX10_readNumber_77 : decode cX10_readNumber 77 = .ok (.isub, 1) := by decide +kernel
theorem dX10_readNumber_78 : decode cX10_readNumber 78 = .ok (.istore 5, 2) := by decide +kernel
theorem dX10_readNumber_80 : decode cX10_readNumber 80 = .ok (.iinc 4 1, 3) := by decide +kernel
theorem dX10_readNumber_83 : decode cX10_readNumber 83 = .ok (.goto (-49), 3) := by decide +kernel
theorem dX10_readNumber_86 : decode cX10_readNumber 86 = .ok (.iload 4, 2) := by decide +kernel
theorem dX10_readNumber_88 : decode cX10_readNumber 88 = .ok (.iload_n 3, 1) := by decide +kernel
theorem dX10_readNumber_89 : decode cX10_readNumber 89 = .ok (.if_icmp .le 15, 3) := by decide +kernel
theorem dX10_readNumber_92 : decode cX10_readNumber 92 = .ok (.iload 4, 2) := by decide +kernel
theorem dX10_readNumber_94 : decode cX10_readNumber 94 = .ok (.iload_n 3, 1) := by decide +kernel
theorem dX10_readNumber_95 : decode cX10_readNumber 95 = .ok (.isub, 1) := by decide +kernel
theorem dX10_readNumber_96 : decode cX10_readNumber 96 = .ok (.iconst 5, 1) := by decide +kernel
theorem dX10_readNumber_97 : decode cX10_readNumber 97 = .ok (.if_icmp .gt 7, 3) := by decide +kernel
theorem dX10_readNumber_100 : decode cX10_readNumber 100 = .ok (.iconst 1, 1) := by decide +kernel
theorem dX10_readNumber_101 : decode cX10_readNumber 101 = .ok (.goto 4, 3) := by decide +kernel
theorem dX10_readNumber_104 : decode cX10_readNumber 104 = .ok (.iconst 0, 1) := by decide +kernel
theorem dX10_readNumber_105 : decode cX10_readNumber 105 = .ok (.istore 6, 2) := by decide +kernel
theorem dX10_readNumber_107 : decode cX10_readNumber 107 = .ok (.aload_n 0, 1) := by decide +kernel
theorem dX10_readNumber_108 : decode cX10_readNumber 108 = .ok (.iload 6, 2) := by decide +kernel
theorem dX10_readNumber_110 : decode cX10_readNumber 110 = .ok (.ifCond .eq 8, 3) := by decide +kernel
theorem dX10_readNumber_113 : decode cX10_readNumber 113 = .ok (.bipush 39, 2) := by decide +kernel
theorem dX10_readNumber_115 : decode cX10_readNumber 115 = .ok (.goto 5, 3) := by decide +kernel
theorem dX10_readNumber_118 : decode cX10_readNumber 118 = .ok (.bipush 49, 2) := by decide +kernel
theorem dX10_readNumber_120 : decode cX10_readNumber 120 = .ok (.iload_n 2, 1) := by decide +kernel
theorem dX10_readNumber_121 : decode cX10_readNumber 121 = .ok (.ifCond .eq 9, 3) := by decide +kernel
theorem dX10_readNumber_124 : decode cX10_readNumber 124 = .ok (.iload 5, 2) := by decide +kernel
theorem dX10_readNumber_126 : decode cX10_readNumber 126 = .ok (.ineg, 1) := by decide +kernel
theorem dX10_readNumber_127 : decode cX10_readNumber 127 = .ok (.goto 5, 3) := by decide +kernel
theorem dX10_readNumber_130 : decode cX10_readNumber 130 = .ok (.iload 5, 2) := by decide +kernel
theorem dX10_readNumber_132 : decode cX10_readNumber 132 = .ok (.iload_n 1, 1) := by decide +kernel
theorem dX10_readNumber_133 : decode cX10_readNumber 133 = .ok (.invokevirtual 58, 3) := by decide +kernel
theorem dX10_readNumber_136 : decode cX10_readNumber 136 = .ok (.iload 6, 2) := by decide +kernel
theorem dX10_readNumber_138 : decode cX10_readNumber 138 = .ok (.ifCond .eq 8, 3) := by decide +kernel
theorem dX10_readNumber_141 : decode cX10_readNumber 141 = .ok (.iload 4, 2) := by decide +kernel
theorem dX10_readNumber_143 : decode cX10_readNumber 143 = .ok (.goto 4, 3) := by decide +kernel
theorem dX10_readNumber_146 : decode cX10_readNumber 146 = .ok (.iconst (-1), 1) := by decide +kernel
theorem dX10_readNumber_147 : decode cX10_readNumber 147 = .ok (.ireturn, 1) := by decide +kernel
abbrev rm_f_X10_readNumber : Room := { frames := 1, cells := 0, slots := 0, locals := 23 }
def f_X10_readNumber_L34 (N : Nat) (K15 : (Int → Int → St → Option (Int × St))) (y11 : Int) : Nat → Int → Int → St → Option (Int × St)
  | 0, _, _, _ => none
  | n9 + 1, x12, x13, t14 =>
    lt1 (t14.1 301 1) fun v16 =>
    cmpI x12 v16 (if x12 < v16 then (bdI (f_X10_byteAt N x12 t14) fun v18 t17 =>
    bdI (f_X10_isDigit N v18 t17) fun v20 t19 =>
    cmpI v20 0 (if v20 = 0 then (K15 x12 x13 t19)
    else (jn1 (fun (j21 : Int) (t22 : St) => f_X10_readNumber_L34 N K15 y11 n9 (x12 + 1) j21 t22) fun J23 =>
    cmpI (x12 - y11) 5 (if (x12 - y11) < 5 then (bdI (f_X10_byteAt N x12 t19) fun v25 t24 =>
    J23 (((10 * x13) + v25) - 48) t24)
    else (J23 x13 t19)))))
    else (K15 x12 x13 t14))
def f_X10_readNumber (N : Nat) (a0 : Int) (t : St) : Option (Int × St) :=
    bdI (f_X10_byteAt N a0 t) fun v2 t1 =>
    jn1 (fun (j3 : Int) (t4 : St) => jn1 (fun (j6 : Int) (t7 : St) => f_X10_readNumber_L34 N (fun (k26 : Int) (k27 : Int) (t28 : St) => jn1 (fun (j29 : Int) (t30 : St) => jn1 (fun (j32 : Int) (t33 : St) => jn1 (fun (j35 : Int) (t36 : St) => bdV (f_X10_put N j32 j35 a0 t36) fun t38 =>
    cmpI j29 0 (if j29 = 0 then (some ((-1), t38))
    else (some (k26, t38)))) fun J37 =>
    cmpI j3 0 (if j3 = 0 then (J37 k27 t33)
    else (J37 (-k27) t33))) fun J34 =>
    cmpI j29 0 (if j29 = 0 then (J34 49 t30)
    else (J34 39 t30))) fun J31 =>
    jn1 (fun (t39 : St) => J31 0 t39) fun J40 =>
    cmpI k26 j6 (if j6 < k26 then (cmpI (k26 - j6) 5 (if 5 < (k26 - j6) then (J40 t28)
    else (J31 1 t28)))
    else (J40 t28))) j6 N j6 0 t7) fun J8 =>
    cmpI j3 0 (if j3 = 0 then (J8 a0 t4)
    else (J8 (a0 + 1) t4))) fun J5 =>
    cmpI v2 45 (if v2 = 45 then (J5 1 t1)
    else (J5 0 t1))
set_option maxHeartbeats 4000000 in
set_option maxRecDepth 100000 in
theorem t_f_X10_readNumber_L34 {p : Program} {l : Launch} {e : Env} {s : State} {m : MethodId} {args : Array Value} {below : List Frame} {meth : Method} {c : Code} {E : cE} {A : Nat → Prop} {r : Nat → Nat} {mc ms : Nat} {z : Int × St} {N : Nat} {K15 : (Int → Int → St → Option (Int × St))} {y9 : Int} {y10 : Int} {y11 : Int} (X : gX p s m meth c cX10_readNumber 7 (some .int) yX10_readNumber args E A) (hK15 : ∀ (q4 : Int) (q5 : Int) (t9 : St), K15 q4 q5 t9 = some z → gP p l e rm_f_X10_readNumber s m args below meth c E A 7 (MQ below ((gqI E (gW E r shH) z) A) args s mc ms A) (gW E r shH) 86 [(0, .ref (r 301)), (1, iv y9), (2, iv y10), (3, iv y11), (4, iv q4), (5, iv q5)] [] t9) : ∀ (n9 : Nat) (x12 : Int) (x13 : Int) (t14 : St), f_X10_readNumber_L34 N K15 y11 n9 x12 x13 t14 = some z → gP p l e rm_f_X10_readNumber s m args below meth c E A 7 (MQ below ((gqI E (gW E r shH) z) A) args s mc ms A) (gW E r shH) 34 [(0, .ref (r 301)), (1, iv y9), (2, iv y10), (3, iv y11), (4, iv x12), (5, iv x13)] [] t14 := by
  intro n9
  induction n9 with
  | zero => intro x12 x13 t14 h; cases h
  | succ n9 ih =>
    intro x12 x13 t14 h
    unfold f_X10_readNumber_L34 at h
    refine g_iload X dX10_readNumber_34 4 rfl ?_
    refine g_aload_n X dX10_readNumber_36 0 rfl ?_
    refine g_getI X fH_X10_44_301 rfl dX10_readNumber_37 h (fun v16 h => ?_)
    refine g_icmp_ge (tgt := 86) X dX10_readNumber_40 (by decide) h (fun h => ?_) (fun h => ?_)
    · exact g_sub (lv' := [(0, .ref (r 301)), (1, iv y9), (2, iv y10), (3, iv y11), (4, iv x12), (5, iv x13)]) [0, 1, 2, 3, 4, 5] rfl (hK15 x12 x13 t14 h)
    · refine g_aload_n X dX10_readNumber_43 0 rfl ?_
      refine g_iload X dX10_readNumber_44 4 rfl ?_
      refine g_callOI (rest := []) X (fun u9 h9 => cp_X10_byteAt l E r N x12 t14 u9 h9) yy_X10_byteAt yi_X10_byteAt wdM_RX10_62 ⟨_, _, oH_301⟩ rfl rfl rfl (Nat.le_of_ble_eq_true rfl) dX10_readNumber_46 ⟨by decide, by decide⟩ ⟨rfl, rfl⟩ h (fun v18 t17 h => ?_)
      refine g_callsI (rest := []) X (fun u9 h9 => cp_X10_isDigit l E r N v18 t17 u9 h9) yy_X10_isDigit wdT_X10_isDigit wdM_RX10_72 rfl rfl (Nat.le_of_ble_eq_true rfl) dX10_readNumber_49 ⟨by decide, by decide⟩ ⟨rfl, rfl⟩ h (fun v20 t19 h => ?_)
      refine g_if_eq (tgt := 86) X dX10_readNumber_52 (by decide) h (fun h => ?_) (fun h => ?_)
      · exact g_sub (lv' := [(0, .ref (r 301)), (1, iv y9), (2, iv y10), (3, iv y11), (4, iv x12), (5, iv x13)]) [0, 1, 2, 3, 4, 5] rfl (hK15 x12 x13 t19 h)
      · refine g_iload X dX10_readNumber_55 4 rfl ?_
        refine g_iload_n X dX10_readNumber_57 3 rfl ?_
        refine g_isub X dX10_readNumber_58 ?_
        refine g_iconst X dX10_readNumber_59 ?_
        refine g_join (J := fun jj => ∀ (j21 : Int) (t22 : St), jj j21 t22 = some z → gP p l e rm_f_X10_readNumber s m args below meth c E A 7 (MQ below ((gqI E (gW E r shH) z) A) args s mc ms A) (gW E r shH) 80 [(0, .ref (r 301)), (1, iv y9), (2, iv y10), (3, iv y11), (4, iv x12), (5, iv j21)] [] t22) h (fun j21 t22 h => ?_) (fun J23 hJ23 h => ?_)
        · refine g_iinc (lv' := [(4, iv (x12 + 1)), (0, .ref (r 301)), (1, iv y9), (2, iv y10), (3, iv y11), (5, iv j21)]) X dX10_readNumber_80 (k := 4) rfl (by decide) rfl ?_
          refine g_goto (tgt := 34) X dX10_readNumber_83 (by decide) ?_
          exact g_sub (lv' := [(0, .ref (r 301)), (1, iv y9), (2, iv y10), (3, iv y11), (4, iv (x12 + 1)), (5, iv j21)]) [1, 2, 3, 4, 0, 5] rfl (ih (x12 + 1) j21 t22 h)
        refine g_icmp_ge (tgt := 80) X dX10_readNumber_60 (by decide) h (fun h => ?_) (fun h => ?_)
        · exact g_sub (lv' := [(0, .ref (r 301)), (1, iv y9), (2, iv y10), (3, iv y11), (4, iv x12), (5, iv x13)]) [0, 1, 2, 3, 4, 5] rfl (hJ23 x13 t19 h)
        · refine g_bipush X dX10_readNumber_63 (by decide) ?_
          refine g_iload X dX10_readNumber_65 5 rfl ?_
          refine g_imul X dX10_readNumber_67 ?_
          refine g_aload_n X dX10_readNumber_68 0 rfl ?_
          refine g_iload X dX10_readNumber_69 4 rfl ?_
          refine g_callOI (rest := [iv (10 * x13)]) X (fun u9 h9 => cp_X10_byteAt l E r N x12 t19 u9 h9) yy_X10_byteAt yi_X10_byteAt wdM_RX10_62 ⟨_, _, oH_301⟩ rfl rfl rfl (Nat.le_of_ble_eq_true rfl) dX10_readNumber_71 ⟨by decide, by decide⟩ ⟨rfl, rfl⟩ h (fun v25 t24 h => ?_)
          refine g_iadd X dX10_readNumber_74 ?_
          refine g_bipush X dX10_readNumber_75 (by decide) ?_
          refine g_isub X dX10_readNumber_77 ?_
          refine g_istore (lv' := [(5, iv (((10 * x13) + v25) - 48)), (0, .ref (r 301)), (1, iv y9), (2, iv y10), (3, iv y11), (4, iv x12)]) X dX10_readNumber_78 (by decide) rfl ?_
          exact g_sub (lv' := [(0, .ref (r 301)), (1, iv y9), (2, iv y10), (3, iv y11), (4, iv x12), (5, iv (((10 * x13) + v25) - 48))]) [1, 2, 3, 4, 5, 0] rfl (hJ23 (((10 * x13) + v25) - 48) t24 h)
set_option maxHeartbeats 4000000 in
set_option maxRecDepth 100000 in
theorem b_f_X10_readNumber {p : Program} {l : Launch} {e : Env} {s : State} {m : MethodId} {args : Array Value} {below : List Frame} {meth : Method} {c : Code} {E : cE} {A : Nat → Prop} {r : Nat → Nat} {mc ms : Nat} {z : Int × St} {N : Nat} {a0 : Int} {t : St} (X : gX p s m meth c cX10_readNumber 7 (some .int) yX10_readNumber args E A) (h : f_X10_readNumber N a0 t = some z) : gP p l e rm_f_X10_readNumber s m args below meth c E A 7 (MQ below ((gqI E (gW E r shH) z) A) args s mc ms A) (gW E r shH) 0 [(0, .ref (r 301)), (1, iv a0)] [] t := by
  unfold f_X10_readNumber at h
  refine g_aload_n X dX10_readNumber_0 0 rfl ?_
  refine g_iload_n X dX10_readNumber_1 1 rfl ?_
  refine g_callOI (rest := []) X (fun u9 h9 => cp_X10_byteAt l E r N a0 t u9 h9) yy_X10_byteAt yi_X10_byteAt wdM_RX10_62 ⟨_, _, oH_301⟩ rfl rfl rfl (Nat.le_of_ble_eq_true rfl) dX10_readNumber_2 ⟨by decide, by decide⟩ ⟨rfl, rfl⟩ h (fun v2 t1 h => ?_)
  refine g_bipush X dX10_readNumber_5 (by decide) ?_
  refine g_join (J := fun jj => ∀ (j3 : Int) (t4 : St), jj j3 t4 = some z → gP p l e rm_f_X10_readNumber s m args below meth c E A 7 (MQ below ((gqI E (gW E r shH) z) A) args s mc ms A) (gW E r shH) 15 [(0, .ref (r 301)), (1, iv a0)] [iv j3] t4) h (fun j3 t4 h => ?_) (fun J5 hJ5 h => ?_)
  · refine g_istore_n (lv' := [(2, iv j3), (0, .ref (r 301)), (1, iv a0)]) X dX10_readNumber_15 rfl (by decide) rfl ?_
    refine g_iload_n X dX10_readNumber_16 0 rfl ?_
    refine g_join (J := fun jj => ∀ (j6 : Int) (t7 : St), jj j6 t7 = some z → gP p l e rm_f_X10_readNumber s m args below meth c E A 7 (MQ below ((gqI E (gW E r shH) z) A) args s mc ms A) (gW E r shH) 27 [(0, .ref (r 301)), (1, iv a0), (2, iv j3)] [iv j6] t7) h (fun j6 t7 h => ?_) (fun J8 hJ8 h => ?_)
    · refine g_istore_n (lv' := [(3, iv j6), (0, .ref (r 301)), (1, iv a0), (2, iv j3)]) X dX10_readNumber_27 rfl (by decide) rfl ?_
      refine g_iload_n X dX10_readNumber_28 0 rfl ?_
      refine g_istore (lv' := [(4, iv j6), (3, iv j6), (0, .ref (r 301)), (1, iv a0), (2, iv j3)]) X dX10_readNumber_29 (by decide) rfl ?_
      refine g_iconst X dX10_readNumber_31 ?_
      refine g_istore (lv' := [(5, iv 0), (4, iv j6), (3, iv j6), (0, .ref (r 301)), (1, iv a0), (2, iv j3)]) X dX10_readNumber_32 (by decide) rfl ?_
      refine g_sub (lv' := [(0, .ref (r 301)), (1, iv a0), (2, iv j3), (3, iv j6), (4, iv j6), (5, iv 0)]) [3, 4, 5, 2, 1, 0] rfl (t_f_X10_readNumber_L34 X (fun k26 k27 t28 h => ?_) N j6 0 t7 h)
      · refine g_iload X dX10_readNumber_86 4 rfl ?_
        refine g_iload_n X dX10_readNumber_88 3 rfl ?_
        refine g_join (J := fun jj => ∀ (j29 : Int) (t30 : St), jj j29 t30 = some z → gP p l e rm_f_X10_readNumber s m args below meth c E A 7 (MQ below ((gqI E (gW E r shH) z) A) args s mc ms A) (gW E r shH) 105 [(0, .ref (r 301)), (1, iv a0), (2, iv j3), (4, iv k26), (5, iv k27)] [iv j29] t30) h (fun j29 t30 h => ?_) (fun J31 hJ31 h => ?_)
        · refine g_istore (lv' := [(6, iv j29), (0, .ref (r 301)), (1, iv a0), (2, iv j3), (4, iv k26), (5, iv k27)]) X dX10_readNumber_105 (by decide) rfl ?_
          refine g_aload_n X dX10_readNumber_107 1 rfl ?_
          refine g_iload X dX10_readNumber_108 0 rfl ?_
          refine g_join (J := fun jj => ∀ (j32 : Int) (t33 : St), jj j32 t33 = some z → gP p l e rm_f_X10_readNumber s m args below meth c E A 7 (MQ below ((gqI E (gW E r shH) z) A) args s mc ms A) (gW E r shH) 120 [(1, iv a0), (2, iv j3), (4, iv k26), (5, iv k27), (6, iv j29)] [iv j32, .ref (r 301)] t33) h (fun j32 t33 h => ?_) (fun J34 hJ34 h => ?_)
          · refine g_iload_n X dX10_readNumber_120 1 rfl ?_
            refine g_join (J := fun jj => ∀ (j35 : Int) (t36 : St), jj j35 t36 = some z → gP p l e rm_f_X10_readNumber s m args below meth c E A 7 (MQ below ((gqI E (gW E r shH) z) A) args s mc ms A) (gW E r shH) 132 [(1, iv a0), (4, iv k26), (6, iv j29)] [iv j35, iv j32, .ref (r 301)] t36) h (fun j35 t36 h => ?_) (fun J37 hJ37 h => ?_)
            · refine g_iload_n X dX10_readNumber_132 0 rfl ?_
              refine g_callOV (rest := []) X (fun u9 h9 => cp_X10_put l E r N j32 j35 a0 t36 u9 h9) yy_X10_put yi_X10_put wdM_RX10_58 ⟨_, _, oH_301⟩ rfl rfl rfl (Nat.le_of_ble_eq_true rfl) dX10_readNumber_133 ⟨by decide, by decide⟩ ⟨rfl, rfl⟩ h (fun t38 h => ?_)
              refine g_iload X dX10_readNumber_136 2 rfl ?_
              refine g_if_eq (tgt := 146) X dX10_readNumber_138 (by decide) h (fun h => ?_) (fun h => ?_)
              · refine g_iconst X dX10_readNumber_146 ?_
                exact g_iret X h dX10_readNumber_147
              · refine g_iload X dX10_readNumber_141 1 rfl ?_
                refine g_goto (tgt := 147) X dX10_readNumber_143 (by decide) ?_
                exact g_iret X h dX10_readNumber_147
            refine g_if_eq (tgt := 130) X dX10_readNumber_121 (by decide) h (fun h => ?_) (fun h => ?_)
            · refine g_iload X dX10_readNumber_130 3 rfl ?_
              exact g_sub (lv' := [(1, iv a0), (4, iv k26), (6, iv j29)]) [0, 2, 4] rfl (hJ37 k27 t33 h)
            · refine g_iload X dX10_readNumber_124 3 rfl ?_
              refine g_ineg X dX10_readNumber_126 ?_
              refine g_goto (tgt := 132) X dX10_readNumber_127 (by decide) ?_
              exact g_sub (lv' := [(1, iv a0), (4, iv k26), (6, iv j29)]) [0, 2, 4] rfl (hJ37 (-k27) t33 h)
          refine g_if_eq (tgt := 118) X dX10_readNumber_110 (by decide) h (fun h => ?_) (fun h => ?_)
          · refine g_bipush X dX10_readNumber_118 (by decide) ?_
            exact g_sub (lv' := [(1, iv a0), (2, iv j3), (4, iv k26), (5, iv k27), (6, iv j29)]) [2, 3, 4, 5, 0] rfl (hJ34 49 t30 h)
          · refine g_bipush X dX10_readNumber_113 (by decide) ?_
            refine g_goto (tgt := 120) X dX10_readNumber_115 (by decide) ?_
            exact g_sub (lv' := [(1, iv a0), (2, iv j3), (4, iv k26), (5, iv k27), (6, iv j29)]) [2, 3, 4, 5, 0] rfl (hJ34 39 t30 h)
        refine g_join (J := fun jj => ∀ (t39 : St), jj  t39 = some z → gP p l e rm_f_X10_readNumber s m args below meth c E A 7 (MQ below ((gqI E (gW E r shH) z) A) args s mc ms A) (gW E r shH) 104 [(0, .ref (r 301)), (1, iv a0), (2, iv j3), (4, iv k26), (5, iv k27)] [] t39) h (fun  t39 h => ?_) (fun J40 hJ40 h => ?_)
        · refine g_iconst X dX10_readNumber_104 ?_
          exact g_sub (lv' := [(0, .ref (r 301)), (1, iv a0), (2, iv j3), (4, iv k26), (5, iv k27)]) [0, 1, 2, 3, 4] rfl (hJ31 0 t39 h)
        refine g_icmp_le (tgt := 104) X dX10_readNumber_89 (by decide) h (fun h => ?_) (fun h => ?_)
        · exact g_sub (lv' := [(0, .ref (r 301)), (1, iv a0), (2, iv j3), (4, iv k26), (5, iv k27)]) [0, 1, 2, 4, 5] rfl (hJ40 t28 h)
        · refine g_iload X dX10_readNumber_92 4 rfl ?_
          refine g_iload_n X dX10_readNumber_94 3 rfl ?_
          refine g_isub X dX10_readNumber_95 ?_
          refine g_iconst X dX10_readNumber_96 ?_
          refine g_icmp_gt (tgt := 104) X dX10_readNumber_97 (by decide) h (fun h => ?_) (fun h => ?_)
          · exact g_sub (lv' := [(0, .ref (r 301)), (1, iv a0), (2, iv j3), (4, iv k26), (5, iv k27)]) [0, 1, 2, 4, 5] rfl (hJ40 t28 h)
          · refine g_iconst X dX10_readNumber_100 ?_
            refine g_goto (tgt := 105) X dX10_readNumber_101 (by decide) ?_
            exact g_sub (lv' := [(0, .ref (r 301)), (1, iv a0), (2, iv j3), (4, iv k26), (5, iv k27)]) [0, 1, 2, 4, 5] rfl (hJ31 1 t28 h)
    refine g_if_eq (tgt := 26) X dX10_readNumber_17 (by decide) h (fun h => ?_) (fun h => ?_)
    · refine g_iload_n X dX10_readNumber_26 2 rfl ?_
      exact g_sub (lv' := [(0, .ref (r 301)), (1, iv a0), (2, iv j3)]) [1, 2, 0] rfl (hJ8 a0 t4 h)
    · refine g_iload_n X dX10_readNumber_20 2 rfl ?_
      refine g_iconst X dX10_readNumber_21 ?_
      refine g_iadd X dX10_readNumber_22 ?_
      refine g_goto (tgt := 27) X dX10_readNumber_23 (by decide) ?_
      exact g_sub (lv' := [(0, .ref (r 301)), (1, iv a0), (2, iv j3)]) [1, 2, 0] rfl (hJ8 (a0 + 1) t4 h)
  refine g_icmp_ne (tgt := 14) X dX10_readNumber_7 (by decide) h (fun h => ?_) (fun h => ?_)
  · refine g_iconst X dX10_readNumber_14 ?_
    exact g_sub (lv' := [(0, .ref (r 301)), (1, iv a0)]) [0, 1] rfl (hJ5 0 t1 h)
  · refine g_iconst X dX10_readNumber_10 ?_
    refine g_goto (tgt := 15) X dX10_readNumber_11 (by decide) ?_
    exact g_sub (lv' := [(0, .ref (r 301)), (1, iv a0)]) [0, 1] rfl (hJ5 1 t1 h)
set_option maxHeartbeats 4000000 in
set_option maxRecDepth 100000 in
theorem cp_X10_readNumber (l : Launch) (E : cE) (r : Nat → Nat) (N : Nat) (a0 : Int) (t : St) (z : Int × St) (h : f_X10_readNumber N a0 t = some z) : cM l E yX10_readNumber cX10_readNumber 7 (some .int) rm_f_X10_readNumber [.ref (r 301), iv a0] (gW E r shH t) (gqI E (gW E r shH) z) := by
  refine g_of (w := gW E r shH) (by decide) (Nat.le_of_ble_eq_true rfl) ?_
  intro p e s m below meth c A X
  exact g_sub (lv' := [(0, .ref (r 301)), (1, iv a0)]) [0, 1] rfl (b_f_X10_readNumber X h)
theorem yy_X10_readNumber : cY yX10_readNumber cX10_readNumber 7 (some .int) 1 := ⟨wdK_X10_readNumber, wdZ_RX10, by decide +kernel⟩
theorem yi_X10_readNumber : cYi yX10_readNumber := ⟨wdN_X10_readNumber, wdS_X10_readNumber⟩
theorem dX10_readToken_0 : decode cX10_readToken 0 = .ok (.aload_n 0, 1) := by decide +kernel
theorem dX10_readToken_1 : decode cX10_readToken 1 = .ok (.iload_n 1, 1) := by decide +kernel
theorem dX10_readToken_2 : decode cX10_readToken 2 = .ok (.invokevirtual 62, 3) := by decide +kernel
theorem dX10_readToken_5 : decode cX10_readToken 5 = .ok (.istore_n 2, 1) := by decide +kernel
theorem dX10_readToken_6 : decode cX10_readToken 6 = .ok (.iload_n 2, 1) := by decide +kernel
theorem dX10_readToken_7 : decode cX10_readToken 7 = .ok (.invokestatic 65, 3) := by decide +kernel
theorem dX10_readToken_10 : decode cX10_readToken 10 = .ok (.ifCond .eq 9, 3) := by decide +kernel
theorem dX10_readToken_13 : decode cX10_readToken 13 = .ok (.aload_n 0, 1) := by decide +kernel
theorem dX10_readToken_14 : decode cX10_readToken 14 = .ok (.iload_n 1, 1) := by decide +kernel
theorem dX10_readToken_15 : decode cX10_readToken 15 = .ok (.invokevirtual 69, 3) := by decide +kernel
theorem dX10_readToken_18 : decode cX10_readToken 18 = .ok (.ireturn, 1) := by decide +kernel
theorem dX10_readToken_19 : decode cX10_readToken 19 = .ok (.iload_n 2, 1) := by decide +kernel
theorem dX10_readToken_20 : decode cX10_readToken 20 = .ok (.bipush 45, 2) := by decide +kernel
theorem dX10_readToken_22 : decode cX10_readToken 22 = .ok (.if_icmp .eq 10, 3) := by decide +kernel
theorem dX10_readToken_25 : decode cX10_readToken 25 = .ok (.iload_n 2, 1) := by decide +kernel
theorem dX10_readToken_26 : decode cX10_readToken 26 = .ok (.invokestatic 72, 3) := by decide +kernel
theorem dX10_readToken_29 : decode cX10_readToken 29 = .ok (.ifCond .eq 9, 3) := by decide +kernel
theorem dX10_readToken_32 : decode cX10_readToken 32 = .ok (.aload_n 0, 1) := by decide +kernel
theorem dX10_readToken_33 : decode cX10_readToken 33 = .ok (.iload_n 1, 1) := by decide +kernel
theorem dX10_readToken_34 : decode cX10_readToken 34 = .ok (.invokevirtual 75, 3) := by decide +kernel
theorem dX10_readToken_37 : decode cX10_readToken 37 = .ok (.ireturn, 1) := by decide +kernel
theorem dX10_readToken_38 : decode cX10_readToken 38 = .ok (.ldc 78, 2) := by decide +kernel
theorem dX10_readToken_40 : decode cX10_readToken 40 = .ok (.iload_n 2, 1) := by decide +kernel
theorem dX10_readToken_41 : decode cX10_readToken 41 = .ok (.i2c, 1) := by decide +kernel
theorem dX10_readToken_42 : decode cX10_readToken 42 = .ok (.invokevirtual 80, 3) := by decide +kernel
theorem dX10_readToken_45 : decode cX10_readToken 45 = .ok (.istore_n 3, 1) := by decide +kernel
theorem dX10_readToken_46 : decode cX10_readToken 46 = .ok (.aload_n 0, 1) := by decide +kernel
theorem dX10_readToken_47 : decode cX10_readToken 47 = .ok (.iload_n 3, 1) := by decide +kernel
theorem dX10_readToken_48 : decode cX10_readToken 48 = .ok (.ifCond .ge 8, 3) := by decide +kernel
theorem dX10_readToken_51 : decode cX10_readToken 51 = .ok (.bipush 49, 2) := by decide +kernel
theorem dX10_readToken_53 : decode cX10_readToken 53 = .ok (.goto 7, 3) := by decide +kernel
theorem dX10_readToken_56 : decode cX10_readToken 56 = .ok (.bipush 40, 2) := by decide +kernel
theorem dX10_readToken_58 : decode cX10_readToken 58 = .ok (.iload_n 3, 1) := by decide +kernel
theorem dX10_readToken_59 : decode cX10_readToken 59 = .ok (.iadd, 1) := by decide +kernel
theorem dX10_readToken_60 : decode cX10_readToken 60 = .ok (.iconst 0, 1) := by decide +kernel
theorem dX10_readToken_61 : decode cX10_readToken 61 = .ok (.iload_n 1, 1) := by decide +kernel
theorem dX10_readToken_62 : decode cX10_readToken 62 = .ok (.invokevirtual 58, 3) := by decide +kernel
theorem dX10_readToken_65 : decode cX10_readToken 65 = .ok (.iload_n 3, 1) := by decide +kernel
theorem dX10_readToken_66 : decode cX10_readToken 66 = .ok (.ifCond .ge 7, 3) := by decide +kernel
theorem dX10_readToken_69 : decode cX10_readToken 69 = .ok (.iconst (-1), 1) := by decide +kernel
theorem dX10_readToken_70 : decode cX10_readToken 70 = .ok (.goto 6, 3) := by decide +kernel
theorem dX10_readToken_73 : decode cX10_readToken 73 = .ok (.iload_n 1, 1) := by decide +kernel
theorem dX10_readToken_74 : decode cX10_readToken 74 = .ok (.iconst 1, 1) := by decide +kernel
theorem dX10_readToken_75 : decode cX10_readToken 75 = .ok (.iadd, 1) := by decide +kernel
theorem dX10_readToken_76 : decode cX10_readToken 76 = .ok (.ireturn, 1) := by decide +kernel
abbrev rm_f_X10_readToken : Room := { frames := 4, cells := 0, slots := 0, locals := 91 }
def f_X10_readToken (N : Nat) (a0 : Int) (t : St) : Option (Int × St) :=
    bdI (f_X10_byteAt N a0 t) fun v2 t1 =>
    bdI (f_X10_isLetter N v2 t1) fun v4 t3 =>
    cmpI v4 0 (if v4 = 0 then (jn1 (fun (t5 : St) => bdI (f_X10_readNumber N a0 t5) fun v8 t7 =>
    some (v8, t7)) fun J6 =>
    cmpI v2 45 (if v2 = 45 then (J6 t3)
    else (bdI (f_X10_isDigit N v2 t3) fun v10 t9 =>
    cmpI v10 0 (if v10 = 0 then (bdI (f_J0_indexOf_0f7a4 N (v2 % 65536) t9) fun v12 t11 =>
    jn1 (fun (j13 : Int) (t14 : St) => bdV (f_X10_put N j13 0 a0 t14) fun t16 =>
    cmpI v12 0 (if v12 < 0 then (some ((-1), t16))
    else (some (a0 + 1, t16)))) fun J15 =>
    cmpI v12 0 (if v12 < 0 then (J15 49 t11)
    else (J15 (40 + v12) t11)))
    else (J6 t9)))))
    else (bdI (f_X10_readWord N a0 t3) fun v18 t17 =>
    some (v18, t17)))
set_option maxHeartbeats 4000000 in
set_option maxRecDepth 100000 in
theorem b_f_X10_readToken {p : Program} {l : Launch} {e : Env} {s : State} {m : MethodId} {args : Array Value} {below : List Frame} {meth : Method} {c : Code} {E : cE} {A : Nat → Prop} {r : Nat → Nat} {mc ms : Nat} {z : Int × St} {N : Nat} {a0 : Int} {t : St} (X : gX p s m meth c cX10_readToken 4 (some .int) yX10_readToken args E A) (h : f_X10_readToken N a0 t = some z) : gP p l e rm_f_X10_readToken s m args below meth c E A 4 (MQ below ((gqI E (gW E r shH) z) A) args s mc ms A) (gW E r shH) 0 [(0, .ref (r 301)), (1, iv a0)] [] t := by
  unfold f_X10_readToken at h
  refine g_aload_n X dX10_readToken_0 0 rfl ?_
  refine g_iload_n X dX10_readToken_1 1 rfl ?_
  refine g_callOI (rest := []) X (fun u9 h9 => cp_X10_byteAt l E r N a0 t u9 h9) yy_X10_byteAt yi_X10_byteAt wdM_RX10_62 ⟨_, _, oH_301⟩ rfl rfl rfl (Nat.le_of_ble_eq_true rfl) dX10_readToken_2 ⟨by decide, by decide⟩ ⟨rfl, rfl⟩ h (fun v2 t1 h => ?_)
  refine g_istore_n (lv' := [(2, iv v2), (0, .ref (r 301)), (1, iv a0)]) X dX10_readToken_5 rfl (by decide) rfl ?_
  refine g_iload_n X dX10_readToken_6 0 rfl ?_
  refine g_callsI (rest := []) X (fun u9 h9 => cp_X10_isLetter l E r N v2 t1 u9 h9) yy_X10_isLetter wdT_X10_isLetter wdM_RX10_65 rfl rfl (Nat.le_of_ble_eq_true rfl) dX10_readToken_7 ⟨by decide, by decide⟩ ⟨rfl, rfl⟩ h (fun v4 t3 h => ?_)
  refine g_if_eq (tgt := 19) X dX10_readToken_10 (by decide) h (fun h => ?_) (fun h => ?_)
  · refine g_iload_n X dX10_readToken_19 0 rfl ?_
    refine g_bipush X dX10_readToken_20 (by decide) ?_
    refine g_join (J := fun jj => ∀ (t5 : St), jj  t5 = some z → gP p l e rm_f_X10_readToken s m args below meth c E A 4 (MQ below ((gqI E (gW E r shH) z) A) args s mc ms A) (gW E r shH) 32 [(0, .ref (r 301)), (1, iv a0)] [] t5) h (fun  t5 h => ?_) (fun J6 hJ6 h => ?_)
    · refine g_aload_n X dX10_readToken_32 0 rfl ?_
      refine g_iload_n X dX10_readToken_33 1 rfl ?_
      refine g_callOI (rest := []) X (fun u9 h9 => cp_X10_readNumber l E r N a0 t5 u9 h9) yy_X10_readNumber yi_X10_readNumber wdM_RX10_75 ⟨_, _, oH_301⟩ rfl rfl rfl (Nat.le_of_ble_eq_true rfl) dX10_readToken_34 ⟨by decide, by decide⟩ ⟨rfl, rfl⟩ h (fun v8 t7 h => ?_)
      exact g_iret X h dX10_readToken_37
    refine g_icmp_eq (tgt := 32) X dX10_readToken_22 (by decide) h (fun h => ?_) (fun h => ?_)
    · exact g_sub (lv' := [(0, .ref (r 301)), (1, iv a0)]) [1, 2] rfl (hJ6 t3 h)
    · refine g_iload_n X dX10_readToken_25 0 rfl ?_
      refine g_callsI (rest := []) X (fun u9 h9 => cp_X10_isDigit l E r N v2 t3 u9 h9) yy_X10_isDigit wdT_X10_isDigit wdM_RX10_72 rfl rfl (Nat.le_of_ble_eq_true rfl) dX10_readToken_26 ⟨by decide, by decide⟩ ⟨rfl, rfl⟩ h (fun v10 t9 h => ?_)
      refine g_if_eq (tgt := 38) X dX10_readToken_29 (by decide) h (fun h => ?_) (fun h => ?_)
      · refine g_ldcS X rfl (gZs X).1.2.2 dX10_readToken_38 ?_
        refine g_iload_n X dX10_readToken_40 0 rfl ?_
        refine g_i2c X dX10_readToken_41 ?_
        refine g_callTI (rest := []) X (fun u9 h9 => cp_J0_indexOf_0f7a4 l E r N (v2 % 65536) t9 u9 h9) yy_J0_indexOf_0f7a4 yi_J0_indexOf_0f7a4 wdM_RX10_80 (gZs X).2.2.1.1 rfl rfl (Nat.le_of_ble_eq_true rfl) dX10_readToken_42 ⟨by decide, by decide⟩ ⟨rfl, rfl⟩ h (fun v12 t11 h => ?_)
        refine g_istore_n (lv' := [(3, iv v12), (2, iv v2), (0, .ref (r 301)), (1, iv a0)]) X dX10_readToken_45 rfl (by decide) rfl ?_
        refine g_aload_n X dX10_readToken_46 2 rfl ?_
        refine g_iload_n X dX10_readToken_47 0 rfl ?_
        refine g_join (J := fun jj => ∀ (j13 : Int) (t14 : St), jj j13 t14 = some z → gP p l e rm_f_X10_readToken s m args below meth c E A 4 (MQ below ((gqI E (gW E r shH) z) A) args s mc ms A) (gW E r shH) 60 [(1, iv a0), (3, iv v12)] [iv j13, .ref (r 301)] t14) h (fun j13 t14 h => ?_) (fun J15 hJ15 h => ?_)
        · refine g_iconst X dX10_readToken_60 ?_
          refine g_iload_n X dX10_readToken_61 0 rfl ?_
          refine g_callOV (rest := []) X (fun u9 h9 => cp_X10_put l E r N j13 0 a0 t14 u9 h9) yy_X10_put yi_X10_put wdM_RX10_58 ⟨_, _, oH_301⟩ rfl rfl rfl (Nat.le_of_ble_eq_true rfl) dX10_readToken_62 ⟨by decide, by decide⟩ ⟨rfl, rfl⟩ h (fun t16 h => ?_)
          refine g_iload_n X dX10_readToken_65 1 rfl ?_
          refine g_if_ge (tgt := 73) X dX10_readToken_66 (by decide) h (fun h => ?_) (fun h => ?_)
          · refine g_iload_n X dX10_readToken_73 0 rfl ?_
            refine g_iconst X dX10_readToken_74 ?_
            refine g_iadd X dX10_readToken_75 ?_
            exact g_iret X h dX10_readToken_76
          · refine g_iconst X dX10_readToken_69 ?_
            refine g_goto (tgt := 76) X dX10_readToken_70 (by decide) ?_
            exact g_iret X h dX10_readToken_76
        refine g_if_ge (tgt := 56) X dX10_readToken_48 (by decide) h (fun h => ?_) (fun h => ?_)
        · refine g_bipush X dX10_readToken_56 (by decide) ?_
          refine g_iload_n X dX10_readToken_58 0 rfl ?_
          refine g_iadd X dX10_readToken_59 ?_
          exact g_sub (lv' := [(1, iv a0), (3, iv v12)]) [3, 0] rfl (hJ15 (40 + v12) t11 h)
        · refine g_bipush X dX10_readToken_51 (by decide) ?_
          refine g_goto (tgt := 60) X dX10_readToken_53 (by decide) ?_
          exact g_sub (lv' := [(1, iv a0), (3, iv v12)]) [3, 0] rfl (hJ15 49 t11 h)
      · exact g_sub (lv' := [(0, .ref (r 301)), (1, iv a0)]) [1, 2] rfl (hJ6 t9 h)
  · refine g_aload_n X dX10_readToken_13 1 rfl ?_
    refine g_iload_n X dX10_readToken_14 2 rfl ?_
    refine g_callOI (rest := []) X (fun u9 h9 => cp_X10_readWord l E r N a0 t3 u9 h9) yy_X10_readWord yi_X10_readWord wdM_RX10_69 ⟨_, _, oH_301⟩ rfl rfl rfl (Nat.le_of_ble_eq_true rfl) dX10_readToken_15 ⟨by decide, by decide⟩ ⟨rfl, rfl⟩ h (fun v18 t17 h => ?_)
    exact g_iret X h dX10_readToken_18
set_option maxHeartbeats 4000000 in
set_option maxRecDepth 100000 in
theorem cp_X10_readToken (l : Launch) (E : cE) (r : Nat → Nat) (N : Nat) (a0 : Int) (t : St) (z : Int × St) (h : f_X10_readToken N a0 t = some z) : cM l E yX10_readToken cX10_readToken 4 (some .int) rm_f_X10_readToken [.ref (r 301), iv a0] (gW E r shH t) (gqI E (gW E r shH) z) := by
  refine g_of (w := gW E r shH) (by decide) (Nat.le_of_ble_eq_true rfl) ?_
  intro p e s m below meth c A X
  exact g_sub (lv' := [(0, .ref (r 301)), (1, iv a0)]) [0, 1] rfl (b_f_X10_readToken X h)
theorem yy_X10_readToken : cY yX10_readToken cX10_readToken 4 (some .int) 1 := ⟨wdK_X10_readToken, wdZ_RX10, by decide +kernel⟩
theorem yi_X10_readToken : cYi yX10_readToken := ⟨wdN_X10_readToken, wdS_X10_readToken⟩
theorem dX10_read_0 : decode cX10_read 0 = .ok (.aload_n 0, 1) := by decide +kernel
theorem dX10_read_1 : decode cX10_read 1 = .ok (.iconst 0, 1) := by decide +kernel
theorem dX10_read_2 : decode cX10_read 2 = .ok (.putfield 48, 3) := by decide +kernel
theorem dX10_read_5 : decode cX10_read 5 = .ok (.aload_n 0, 1) := by decide +kernel
theorem dX10_read_6 : decode cX10_read 6 = .ok (.iconst 0, 1) := by decide +kernel
theorem dX10_read_7 : decode cX10_read 7 = .ok (.invokevirtual 51, 3) := by decide +kernel
theorem dX10_read_10 : decode cX10_read 10 = .ok (.istore_n 1, 1) := by decide +kernel
theorem dX10_read_11 : decode cX10_read 11 = .ok (.iconst 0, 1) := by decide +kernel
theorem dX10_read_12 : decode cX10_read 12 = .ok (.istore_n 2, 1) := by decide +kernel
theorem dX10_read_13 : decode cX10_read 13 = .ok (.iload_n 2, 1) := by decide +kernel
theorem dX10_read_14 : decode cX10_read 14 = .ok (.sipush 4096, 3) := by decide +kernel
theorem dX10_read_17 : decode cX10_read 17 = .ok (.if_icmp .ge 37, 3) := by decide +kernel
theorem dX10_read_20 : decode cX10_read 20 = .ok (.iload_n 1, 1) := by decide +kernel
theorem dX10_read_21 : decode cX10_read 21 = .ok (.ifCond .lt 33, 3) := by decide +kernel
theorem dX10_read_24 : decode cX10_read 24 = .ok (.iload_n 1, 1) := by decide +kernel
theorem dX10_read_25 : decode cX10_read 25 = .ok (.aload_n 0, 1) := by decide +kernel
theorem dX10_read_26 : decode cX10_read 26 = .ok (.getfield 44, 3) := by decide +kernel
theorem dX10_read_29 : decode cX10_read 29 = .ok (.if_icmp .ge 25, 3) := by decide +kernel
theorem dX10_read_32 : decode cX10_read 32 = .ok (.aload_n 0, 1) := by decide +kernel
theorem dX10_read_33 : decode cX10_read 33 = .ok (.iload_n 1, 1) := by decide +kernel
theorem dX10_read_34 : decode cX10_read 34 = .ok (.invokevirtual 55, 3) := by decide +kernel
theorem dX10_read_37 : decode cX10_read 37 = .ok (.istore_n 1, 1) := by decide +kernel
theorem dX10_read_38 : decode cX10_read 38 = .ok (.iload_n 1, 1) := by decide +kernel
theorem dX10_read_39 : decode cX10_read 39 = .ok (.ifCond .lt 9, 3) := by decide +kernel
theorem dX10_read_42 : decode cX10_read 42 = .ok (.aload_n 0, 1) := by decide +kernel
theorem dX10_read_43 : decode cX10_read 43 = .ok (.iload_n 1, 1) := by decide +kernel
theorem dX10_read_44 : decode cX10_read 44 = .ok (.invokevirtual 51, 3) := by decide +kernel
theorem dX10_read_47 : decode cX10_read 47 = .ok (.istore_n 1, 1) := by decide +kernel
theorem dX10_read_48 : decode cX10_read 48 = .ok (.iinc 2 1, 3) := by decide +kernel
theorem dX10_read_51 : decode cX10_read 51 = .ok (.goto (-38), 3) := by decide +kernel
theorem dX10_read_54 : decode cX10_read 54 = .ok (.aload_n 0, 1) := by decide +kernel
theorem dX10_read_55 : decode cX10_read 55 = .ok (.bipush 48, 2) := by decide +kernel
theorem dX10_read_57 : decode cX10_read 57 = .ok (.iconst 0, 1) := by decide +kernel
theorem dX10_read_58 : decode cX10_read 58 = .ok (.aload_n 0, 1) := by decide +kernel
theorem dX10_read_59 : decode cX10_read 59 = .ok (.getfield 44, 3) := by decide +kernel
theorem dX10_read_62 : decode cX10_read 62 = .ok (.invokevirtual 58, 3) := by decide +kernel
theorem dX10_read_65 : decode cX10_read 65 = .ok (.aload_n 0, 1) := by decide +kernel
theorem dX10_read_66 : decode cX10_read 66 = .ok (.iconst 0, 1) := by decide +kernel
theorem dX10_read_67 : decode cX10_read 67 = .ok (.putfield 44, 3) := by decide +kernel
theorem dX10_read_70 : decode cX10_read 70 = .ok (.return_, 1) := by decide +kernel
abbrev rm_f_X10_read : Room := { frames := 5, cells := 0, slots := 0, locals := 114 }
def f_X10_read_L13 (N : Nat) (K7 : (St → Option (St))) : Nat → Int → Int → St → Option (St)
  | 0, _, _, _ => none
  | n9 + 1, x4, x5, t6 =>
    cmpI x5 4096 (if x5 < 4096 then (cmpI x4 0 (if x4 < 0 then (K7 t6)
    else (lt1 (t6.1 301 1) fun v8 =>
    cmpI x4 v8 (if x4 < v8 then (bdI (f_X10_readToken N x4 t6) fun v10 t9 =>
    jn1 (fun (j11 : Int) (t12 : St) => f_X10_read_L13 N K7 n9 j11 (x5 + 1) t12) fun J13 =>
    cmpI v10 0 (if v10 < 0 then (J13 v10 t9)
    else (bdI (f_X10_skipBlanks N v10 t9) fun v15 t14 =>
    J13 v15 t14)))
    else (K7 t6)))))
    else (K7 t6))
def f_X10_read (N : Nat) (t : St) : Option (St) :=
    lt1 (pI t 301 7 0) fun t1 =>
    bdI (f_X10_skipBlanks N 0 t1) fun v3 t2 =>
    f_X10_read_L13 N (fun (t16 : St) => lt1 (t16.1 301 1) fun v17 =>
    bdV (f_X10_put N 48 0 v17 t16) fun t18 =>
    lt1 (pI t18 301 1 0) fun t19 =>
    some t19) N v3 0 t2
set_option maxHeartbeats 4000000 in
set_option maxRecDepth 100000 in
theorem t_f_X10_read_L13 {p : Program} {l : Launch} {e : Env} {s : State} {m : MethodId} {args : Array Value} {below : List Frame} {meth : Method} {c : Code} {E : cE} {A : Nat → Prop} {r : Nat → Nat} {mc ms : Nat} {z : St} {N : Nat} {K7 : (St → Option (St))} (X : gX p s m meth c cX10_read 3 none yX10_read args E A) (hK7 : ∀ (t9 : St), K7 t9 = some z → gP p l e rm_f_X10_read s m args below meth c E A 3 (MQ below ((gqV E (gW E r shH) z) A) args s mc ms A) (gW E r shH) 54 [(0, .ref (r 301))] [] t9) : ∀ (n9 : Nat) (x4 : Int) (x5 : Int) (t6 : St), f_X10_read_L13 N K7 n9 x4 x5 t6 = some z → gP p l e rm_f_X10_read s m args below meth c E A 3 (MQ below ((gqV E (gW E r shH) z) A) args s mc ms A) (gW E r shH) 13 [(0, .ref (r 301)), (1, iv x4), (2, iv x5)] [] t6 := by
  intro n9
  induction n9 with
  | zero => intro x4 x5 t6 h; cases h
  | succ n9 ih =>
    intro x4 x5 t6 h
    unfold f_X10_read_L13 at h
    refine g_iload_n X dX10_read_13 2 rfl ?_
    refine g_sipush X dX10_read_14 (by decide) ?_
    refine g_icmp_ge (tgt := 54) X dX10_read_17 (by decide) h (fun h => ?_) (fun h => ?_)
    · exact g_sub (lv' := [(0, .ref (r 301))]) [0] rfl (hK7 t6 h)
    · refine g_iload_n X dX10_read_20 1 rfl ?_
      refine g_if_lt (tgt := 54) X dX10_read_21 (by decide) h (fun h => ?_) (fun h => ?_)
      · exact g_sub (lv' := [(0, .ref (r 301))]) [0] rfl (hK7 t6 h)
      · refine g_iload_n X dX10_read_24 1 rfl ?_
        refine g_aload_n X dX10_read_25 0 rfl ?_
        refine g_getI X fH_X10_44_301 rfl dX10_read_26 h (fun v8 h => ?_)
        refine g_icmp_ge (tgt := 54) X dX10_read_29 (by decide) h (fun h => ?_) (fun h => ?_)
        · exact g_sub (lv' := [(0, .ref (r 301))]) [0] rfl (hK7 t6 h)
        · refine g_aload_n X dX10_read_32 0 rfl ?_
          refine g_iload_n X dX10_read_33 1 rfl ?_
          refine g_callOI (rest := []) X (fun u9 h9 => cp_X10_readToken l E r N x4 t6 u9 h9) yy_X10_readToken yi_X10_readToken wdM_RX10_55 ⟨_, _, oH_301⟩ rfl rfl rfl (Nat.le_of_ble_eq_true rfl) dX10_read_34 ⟨by decide, by decide⟩ ⟨rfl, rfl⟩ h (fun v10 t9 h => ?_)
          refine g_istore_n (lv' := [(1, iv v10), (0, .ref (r 301)), (2, iv x5)]) X dX10_read_37 rfl (by decide) rfl ?_
          refine g_iload_n X dX10_read_38 0 rfl ?_
          refine g_join (J := fun jj => ∀ (j11 : Int) (t12 : St), jj j11 t12 = some z → gP p l e rm_f_X10_read s m args below meth c E A 3 (MQ below ((gqV E (gW E r shH) z) A) args s mc ms A) (gW E r shH) 48 [(0, .ref (r 301)), (1, iv j11), (2, iv x5)] [] t12) h (fun j11 t12 h => ?_) (fun J13 hJ13 h => ?_)
          · refine g_iinc (lv' := [(2, iv (x5 + 1)), (0, .ref (r 301)), (1, iv j11)]) X dX10_read_48 (k := 2) rfl (by decide) rfl ?_
            refine g_goto (tgt := 13) X dX10_read_51 (by decide) ?_
            exact g_sub (lv' := [(0, .ref (r 301)), (1, iv j11), (2, iv (x5 + 1))]) [1, 2, 0] rfl (ih j11 (x5 + 1) t12 h)
          refine g_if_lt (tgt := 48) X dX10_read_39 (by decide) h (fun h => ?_) (fun h => ?_)
          · exact g_sub (lv' := [(0, .ref (r 301)), (1, iv v10), (2, iv x5)]) [1, 0, 2] rfl (hJ13 v10 t9 h)
          · refine g_aload_n X dX10_read_42 1 rfl ?_
            refine g_iload_n X dX10_read_43 0 rfl ?_
            refine g_callOI (rest := []) X (fun u9 h9 => cp_X10_skipBlanks l E r N v10 t9 u9 h9) yy_X10_skipBlanks yi_X10_skipBlanks wdM_RX10_51 ⟨_, _, oH_301⟩ rfl rfl rfl (Nat.le_of_ble_eq_true rfl) dX10_read_44 ⟨by decide, by decide⟩ ⟨rfl, rfl⟩ h (fun v15 t14 h => ?_)
            refine g_istore_n (lv' := [(1, iv v15), (0, .ref (r 301)), (2, iv x5)]) X dX10_read_47 rfl (by decide) rfl ?_
            exact g_sub (lv' := [(0, .ref (r 301)), (1, iv v15), (2, iv x5)]) [1, 0, 2] rfl (hJ13 v15 t14 h)
set_option maxHeartbeats 4000000 in
set_option maxRecDepth 100000 in
theorem b_f_X10_read {p : Program} {l : Launch} {e : Env} {s : State} {m : MethodId} {args : Array Value} {below : List Frame} {meth : Method} {c : Code} {E : cE} {A : Nat → Prop} {r : Nat → Nat} {mc ms : Nat} {z : St} {N : Nat} {t : St} (X : gX p s m meth c cX10_read 3 none yX10_read args E A) (h : f_X10_read N t = some z) : gP p l e rm_f_X10_read s m args below meth c E A 3 (MQ below ((gqV E (gW E r shH) z) A) args s mc ms A) (gW E r shH) 0 [(0, .ref (r 301))] [] t := by
  unfold f_X10_read at h
  refine g_aload_n X dX10_read_0 0 rfl ?_
  refine g_iconst X dX10_read_1 ?_
  refine g_putI X fH_X10_48_301w rfl dX10_read_2 h (fun t1 h => ?_)
  refine g_aload_n X dX10_read_5 0 rfl ?_
  refine g_iconst X dX10_read_6 ?_
  refine g_callOI (rest := []) X (fun u9 h9 => cp_X10_skipBlanks l E r N 0 t1 u9 h9) yy_X10_skipBlanks yi_X10_skipBlanks wdM_RX10_51 ⟨_, _, oH_301⟩ rfl rfl rfl (Nat.le_of_ble_eq_true rfl) dX10_read_7 ⟨by decide, by decide⟩ ⟨rfl, rfl⟩ h (fun v3 t2 h => ?_)
  refine g_istore_n (lv' := [(1, iv v3), (0, .ref (r 301))]) X dX10_read_10 rfl (by decide) rfl ?_
  refine g_iconst X dX10_read_11 ?_
  refine g_istore_n (lv' := [(2, iv 0), (1, iv v3), (0, .ref (r 301))]) X dX10_read_12 rfl (by decide) rfl ?_
  refine g_sub (lv' := [(0, .ref (r 301)), (1, iv v3), (2, iv 0)]) [2, 1, 0] rfl (t_f_X10_read_L13 X (fun t16 h => ?_) N v3 0 t2 h)
  · refine g_aload_n X dX10_read_54 0 rfl ?_
    refine g_bipush X dX10_read_55 (by decide) ?_
    refine g_iconst X dX10_read_57 ?_
    refine g_aload_n X dX10_read_58 0 rfl ?_
    refine g_getI X fH_X10_44_301 rfl dX10_read_59 h (fun v17 h => ?_)
    refine g_callOV (rest := []) X (fun u9 h9 => cp_X10_put l E r N 48 0 v17 t16 u9 h9) yy_X10_put yi_X10_put wdM_RX10_58 ⟨_, _, oH_301⟩ rfl rfl rfl (Nat.le_of_ble_eq_true rfl) dX10_read_62 ⟨by decide, by decide⟩ ⟨rfl, rfl⟩ h (fun t18 h => ?_)
    refine g_aload_n X dX10_read_65 0 rfl ?_
    refine g_iconst X dX10_read_66 ?_
    refine g_putI X fH_X10_44_301w rfl dX10_read_67 h (fun t19 h => ?_)
    exact g_vret X h dX10_read_70
set_option maxHeartbeats 4000000 in
set_option maxRecDepth 100000 in
theorem cp_X10_read (l : Launch) (E : cE) (r : Nat → Nat) (N : Nat) (t : St) (z : St) (h : f_X10_read N t = some z) : cM l E yX10_read cX10_read 3 none rm_f_X10_read [.ref (r 301)] (gW E r shH t) (gqV E (gW E r shH) z) := by
  refine g_of (w := gW E r shH) (by decide) (Nat.le_of_ble_eq_true rfl) ?_
  intro p e s m below meth c A X
  exact g_sub (lv' := [(0, .ref (r 301))]) [0] rfl (b_f_X10_read X h)
theorem yy_X10_read : cY yX10_read cX10_read 3 none 0 := ⟨wdK_X10_read, wdZ_RX10, by decide +kernel⟩
theorem yi_X10_read : cYi yX10_read := ⟨wdN_X10_read, wdS_X10_read⟩
