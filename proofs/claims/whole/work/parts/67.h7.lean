theorem dX8_leaveIf_0 : decode cX8_leaveIf 0 = .ok (.iload_n 1, 1) := by decide +kernel
theorem dX8_leaveIf_1 : decode cX8_leaveIf 1 = .ok (.ifCond .eq 8, 3) := by decide +kernel
theorem dX8_leaveIf_4 : decode cX8_leaveIf 4 = .ok (.aload_n 0, 1) := by decide +kernel
theorem dX8_leaveIf_5 : decode cX8_leaveIf 5 = .ok (.invokevirtual 103, 3) := by decide +kernel
theorem dX8_leaveIf_8 : decode cX8_leaveIf 8 = .ok (.pop2, 1) := by decide +kernel
theorem dX8_leaveIf_9 : decode cX8_leaveIf 9 = .ok (.aload_n 0, 1) := by decide +kernel
theorem dX8_leaveIf_10 : decode cX8_leaveIf 10 = .ok (.iload_n 1, 1) := by decide +kernel
theorem dX8_leaveIf_11 : decode cX8_leaveIf 11 = .ok (.ifCond .eq 7, 3) := by decide +kernel
theorem dX8_leaveIf_14 : decode cX8_leaveIf 14 = .ok (.iload_n 2, 1) := by decide +kernel
theorem dX8_leaveIf_15 : decode cX8_leaveIf 15 = .ok (.goto 9, 3) := by decide +kernel
theorem dX8_leaveIf_18 : decode cX8_leaveIf 18 = .ok (.aload_n 0, 1) := by decide +kernel
theorem dX8_leaveIf_19 : decode cX8_leaveIf 19 = .ok (.getfield 43, 3) := by decide +kernel
theorem dX8_leaveIf_22 : decode cX8_leaveIf 22 = .ok (.iconst 1, 1) := by decide +kernel
theorem dX8_leaveIf_23 : decode cX8_leaveIf 23 = .ok (.iadd, 1) := by decide +kernel
theorem dX8_leaveIf_24 : decode cX8_leaveIf 24 = .ok (.putfield 43, 3) := by decide +kernel
theorem dX8_leaveIf_27 : decode cX8_leaveIf 27 = .ok (.return_, 1) := by decide +kernel
abbrev rm_f_X8_leaveIf : Room := { frames := 2, cells := 0, slots := 0, locals := 42 }
def f_X8_leaveIf (N : Nat) (o0 : Nat) (a0 : Int) (a1 : Int) (t : St) : Option (St) :=
    jn1 (fun (t1 : St) => cmpI a0 0 (if a0 = 0 then (lt1 (t1.1 (307 + o0) 3) fun v3 =>
    lt1 (pI t1 (307 + o0) 3 (v3 + 1)) fun t4 =>
    some t4)
    else (lt1 (pI t1 (307 + o0) 3 a1) fun t5 =>
    some t5))) fun J2 =>
    cmpI a0 0 (if a0 = 0 then (J2 t)
    else (bdL (f_X8_pop N o0 t) fun v7 t6 =>
    J2 t6))
set_option maxHeartbeats 4000000 in
set_option maxRecDepth 100000 in
theorem b_f_X8_leaveIf {p : Program} {l : Launch} {e : Env} {s : State} {m : MethodId} {args : Array Value} {below : List Frame} {meth : Method} {c : Code} {E : cE} {A : Nat → Prop} {r : Nat → Nat} {mc ms : Nat} {z : St} {N : Nat} {o0 : Nat} (ho0 : o0 < 2) {a0 : Int} {a1 : Int} {t : St} (X : gX p s m meth c cX8_leaveIf 3 none yX8_leaveIf args E A) (h : f_X8_leaveIf N o0 a0 a1 t = some z) : gP p l e rm_f_X8_leaveIf s m args below meth c E A 3 (MQ below ((gqV E (gW E r shH) z) A) args s mc ms A) (gW E r shH) 0 [(0, .ref (r (307 + o0))), (1, iv a0), (2, iv a1)] [] t := by
  unfold f_X8_leaveIf at h
  refine g_iload_n X dX8_leaveIf_0 1 rfl ?_
  refine g_join (J := fun jj => ∀ (t1 : St), jj  t1 = some z → gP p l e rm_f_X8_leaveIf s m args below meth c E A 3 (MQ below ((gqV E (gW E r shH) z) A) args s mc ms A) (gW E r shH) 9 [(0, .ref (r (307 + o0))), (1, iv a0), (2, iv a1)] [] t1) h (fun  t1 h => ?_) (fun J2 hJ2 h => ?_)
  · refine g_aload_n X dX8_leaveIf_9 0 rfl ?_
    refine g_iload_n X dX8_leaveIf_10 1 rfl ?_
    refine g_if_eq (tgt := 18) X dX8_leaveIf_11 (by decide) h (fun h => ?_) (fun h => ?_)
    · refine g_aload_n X dX8_leaveIf_18 0 rfl ?_
      refine g_getI X (fH_X8_43_o (o := o0) ho0) rfl dX8_leaveIf_19 h (fun v3 h => ?_)
      refine g_iconst X dX8_leaveIf_22 ?_
      refine g_iadd X dX8_leaveIf_23 ?_
      refine g_putI X (fH_X8_43_ow (o := o0) ho0) rfl dX8_leaveIf_24 h (fun t4 h => ?_)
      exact g_vret X h dX8_leaveIf_27
    · refine g_iload_n X dX8_leaveIf_14 2 rfl ?_
      refine g_goto (tgt := 24) X dX8_leaveIf_15 (by decide) ?_
      refine g_putI X (fH_X8_43_ow (o := o0) ho0) rfl dX8_leaveIf_24 h (fun t5 h => ?_)
      exact g_vret X h dX8_leaveIf_27
  refine g_if_eq (tgt := 9) X dX8_leaveIf_1 (by decide) h (fun h => ?_) (fun h => ?_)
  · exact g_sub (lv' := [(0, .ref (r (307 + o0))), (1, iv a0), (2, iv a1)]) [0, 1, 2] rfl (hJ2 t h)
  · refine g_aload_n X dX8_leaveIf_4 0 rfl ?_
    refine g_callOL (rest := []) X (fun u9 h9 => cp_X8_pop l E r N o0 ho0 t u9 h9) yy_X8_pop yi_X8_pop wdM_RX8_103 (oX8 (o := o0) ho0) rfl rfl rfl (Nat.le_of_ble_eq_true rfl) dX8_leaveIf_5 ⟨by decide, by decide⟩ ⟨rfl, rfl⟩ h (fun v7 t6 h => ?_)
    refine g_pop2 X rfl dX8_leaveIf_8 ?_
    exact g_sub (lv' := [(0, .ref (r (307 + o0))), (1, iv a0), (2, iv a1)]) [0, 1, 2] rfl (hJ2 t6 h)
set_option maxHeartbeats 4000000 in
set_option maxRecDepth 100000 in
theorem cp_X8_leaveIf (l : Launch) (E : cE) (r : Nat → Nat) (N : Nat) (o0 : Nat) (ho0 : o0 < 2) (a0 : Int) (a1 : Int) (t : St) (z : St) (h : f_X8_leaveIf N o0 a0 a1 t = some z) : cM l E yX8_leaveIf cX8_leaveIf 3 none rm_f_X8_leaveIf [.ref (r (307 + o0)), iv a0, iv a1] (gW E r shH t) (gqV E (gW E r shH) z) := by
  refine g_of (w := gW E r shH) (by decide) (Nat.le_of_ble_eq_true rfl) ?_
  intro p e s m below meth c A X
  exact g_sub (lv' := [(0, .ref (r (307 + o0))), (1, iv a0), (2, iv a1)]) [0, 1, 2] rfl (b_f_X8_leaveIf ho0 X h)
theorem yy_X8_leaveIf : cY yX8_leaveIf cX8_leaveIf 3 none 2 := ⟨wdK_X8_leaveIf, wdZ_RX8, by decide +kernel⟩
theorem yi_X8_leaveIf : cYi yX8_leaveIf := ⟨wdN_X8_leaveIf, wdS_X8_leaveIf⟩
theorem dX8_obey_0 : decode cX8_obey 0 = .ok (.iload_n 1, 1) := by decide +kernel
theorem dX8_obey_1 : decode cX8_obey 1 = .ok (.tableswitch 248 19 28 #[55, 82, 101, 101, 248, 133, 158, 187, 195, 227], 55) := by decide +kernel
theorem dX8_obey_56 : decode cX8_obey 56 = .ok (.aload_n 0, 1) := by decide +kernel
theorem dX8_obey_57 : decode cX8_obey 57 = .ok (.aload_n 0, 1) := by decide +kernel
theorem dX8_obey_58 : decode cX8_obey 58 = .ok (.getfield 43, 3) := by decide +kernel
theorem dX8_obey_61 : decode cX8_obey 61 = .ok (.iconst 1, 1) := by decide +kernel
theorem dX8_obey_62 : decode cX8_obey 62 = .ok (.iadd, 1) := by decide +kernel
theorem dX8_obey_63 : decode cX8_obey 63 = .ok (.i2l, 1) := by decide +kernel
theorem dX8_obey_64 : decode cX8_obey 64 = .ok (.invokevirtual 99, 3) := by decide +kernel
theorem dX8_obey_67 : decode cX8_obey 67 = .ok (.aload_n 0, 1) := by decide +kernel
theorem dX8_obey_68 : decode cX8_obey 68 = .ok (.aload_n 0, 1) := by decide +kernel
theorem dX8_obey_69 : decode cX8_obey 69 = .ok (.getfield 15, 3) := by decide +kernel
theorem dX8_obey_72 : decode cX8_obey 72 = .ok (.getfield 37, 3) := by decide +kernel
theorem dX8_obey_75 : decode cX8_obey 75 = .ok (.iload_n 2, 1) := by decide +kernel
theorem dX8_obey_76 : decode cX8_obey 76 = .ok (.iaload, 1) := by decide +kernel
theorem dX8_obey_77 : decode cX8_obey 77 = .ok (.putfield 43, 3) := by decide +kernel
theorem dX8_obey_80 : decode cX8_obey 80 = .ok (.goto 178, 3) := by decide +kernel
theorem dX8_obey_83 : decode cX8_obey 83 = .ok (.aload_n 0, 1) := by decide +kernel
theorem dX8_obey_84 : decode cX8_obey 84 = .ok (.iload_n 2, 1) := by decide +kernel
theorem dX8_obey_85 : decode cX8_obey 85 = .ok (.i2l, 1) := by decide +kernel
theorem dX8_obey_86 : decode cX8_obey 86 = .ok (.invokevirtual 99, 3) := by decide +kernel
theorem dX8_obey_89 : decode cX8_obey 89 = .ok (.aload_n 0, 1) := by decide +kernel
theorem dX8_obey_90 : decode cX8_obey 90 = .ok (.dup, 1) := by decide +kernel
theorem dX8_obey_91 : decode cX8_obey 91 = .ok (.getfield 43, 3) := by decide +kernel
theorem dX8_obey_94 : decode cX8_obey 94 = .ok (.iconst 1, 1) := by decide +kernel
theorem dX8_obey_95 : decode cX8_obey 95 = .ok (.iadd, 1) := by decide +kernel
theorem dX8_obey_96 : decode cX8_obey 96 = .ok (.putfield 43, 3) := by decide +kernel
theorem dX8_obey_99 : decode cX8_obey 99 = .ok (.goto 159, 3) := by decide +kernel
theorem dX8_obey_102 : decode cX8_obey 102 = .ok (.aload_n 0, 1) := by decide +kernel
theorem dX8_obey_103 : decode cX8_obey 103 = .ok (.aload_n 0, 1) := by decide +kernel
theorem dX8_obey_104 : decode cX8_obey 104 = .ok (.invokevirtual 103, 3) := by decide +kernel
theorem dX8_obey_107 : decode cX8_obey 107 = .ok (.lconst 1, 1) := by decide +kernel
theorem dX8_obey_108 : decode cX8_obey 108 = .ok (.lsub, 1) := by decide +kernel
theorem dX8_obey_109 : decode cX8_obey 109 = .ok (.invokevirtual 99, 3) := by decide +kernel
theorem dX8_obey_112 : decode cX8_obey 112 = .ok (.aload_n 0, 1) := by decide +kernel
theorem dX8_obey_113 : decode cX8_obey 113 = .ok (.aload_n 0, 1) := by decide +kernel
theorem dX8_obey_114 : decode cX8_obey 114 = .ok (.invokevirtual 95, 3) := by decide +kernel
theorem dX8_obey_117 : decode cX8_obey 117 = .ok (.lconst 0, 1) := by decide +kernel
theorem dX8_obey_118 : decode cX8_obey 118 = .ok (.lcmp, 1) := by decide +kernel
theorem dX8_obey_119 : decode cX8_obey 119 = .ok (.ifCond .ge 7, 3) := by decide +kernel
theorem dX8_obey_122 : decode cX8_obey 122 = .ok (.iconst 1, 1) := by decide +kernel
theorem dX8_obey_123 : decode cX8_obey 123 = .ok (.goto 4, 3) := by decide +kernel
theorem dX8_obey_126 : decode cX8_obey 126 = .ok (.iconst 0, 1) := by decide +kernel
theorem dX8_obey_127 : decode cX8_obey 127 = .ok (.iload_n 2, 1) := by decide +kernel
theorem dX8_obey_128 : decode cX8_obey 128 = .ok (.invokevirtual 106, 3) := by decide +kernel
theorem dX8_obey_131 : decode cX8_obey 131 = .ok (.goto 127, 3) := by decide +kernel
theorem dX8_obey_134 : decode cX8_obey 134 = .ok (.aload_n 0, 1) := by decide +kernel
theorem dX8_obey_135 : decode cX8_obey 135 = .ok (.aload_n 0, 1) := by decide +kernel
theorem dX8_obey_136 : decode cX8_obey 136 = .ok (.getfield 19, 3) := by decide +kernel
theorem dX8_obey_139 : decode cX8_obey 139 = .ok (.invokevirtual 110, 3) := by decide +kernel
theorem dX8_obey_142 : decode cX8_obey 142 = .ok (.lconst 0, 1) := by decide +kernel
theorem dX8_obey_143 : decode cX8_obey 143 = .ok (.lcmp, 1) := by decide +kernel
theorem dX8_obey_144 : decode cX8_obey 144 = .ok (.ifCond .eq 7, 3) := by decide +kernel
theorem dX8_obey_147 : decode cX8_obey 147 = .ok (.iconst 1, 1) := by decide +kernel
theorem dX8_obey_148 : decode cX8_obey 148 = .ok (.goto 4, 3) := by decide +kernel
theorem dX8_obey_151 : decode cX8_obey 151 = .ok (.iconst 0, 1) := by decide +kernel
theorem dX8_obey_152 : decode cX8_obey 152 = .ok (.iload_n 2, 1) := by decide +kernel
theorem dX8_obey_153 : decode cX8_obey 153 = .ok (.invokevirtual 106, 3) := by decide +kernel
theorem dX8_obey_156 : decode cX8_obey 156 = .ok (.goto 102, 3) := by decide +kernel
theorem dX8_obey_159 : decode cX8_obey 159 = .ok (.aload_n 0, 1) := by decide +kernel
theorem dX8_obey_160 : decode cX8_obey 160 = .ok (.aload_n 0, 1) := by decide +kernel
theorem dX8_obey_161 : decode cX8_obey 161 = .ok (.getfield 19, 3) := by decide +kernel
theorem dX8_obey_164 : decode cX8_obey 164 = .ok (.invokevirtual 110, 3) := by decide +kernel
theorem dX8_obey_167 : decode cX8_obey 167 = .ok (.lconst 0, 1) := by decide +kernel
theorem dX8_obey_168 : decode cX8_obey 168 = .ok (.lcmp, 1) := by decide +kernel
theorem dX8_obey_169 : decode cX8_obey 169 = .ok (.ifCond .eq 12, 3) := by decide +kernel
theorem dX8_obey_172 : decode cX8_obey 172 = .ok (.aload_n 0, 1) := by decide +kernel
theorem dX8_obey_173 : decode cX8_obey 173 = .ok (.getfield 43, 3) := by decide +kernel
theorem dX8_obey_176 : decode cX8_obey 176 = .ok (.iconst 1, 1) := by decide +kernel
theorem dX8_obey_177 : decode cX8_obey 177 = .ok (.iadd, 1) := by decide +kernel
theorem dX8_obey_178 : decode cX8_obey 178 = .ok (.goto 4, 3) := by decide +kernel
theorem dX8_obey_181 : decode cX8_obey 181 = .ok (.iload_n 2, 1) := by decide +kernel
theorem dX8_obey_182 : decode cX8_obey 182 = .ok (.putfield 43, 3) := by decide +kernel
theorem dX8_obey_185 : decode cX8_obey 185 = .ok (.goto 73, 3) := by decide +kernel
theorem dX8_obey_188 : decode cX8_obey 188 = .ok (.aload_n 0, 1) := by decide +kernel
theorem dX8_obey_189 : decode cX8_obey 189 = .ok (.iload_n 2, 1) := by decide +kernel
theorem dX8_obey_190 : decode cX8_obey 190 = .ok (.putfield 43, 3) := by decide +kernel
theorem dX8_obey_193 : decode cX8_obey 193 = .ok (.goto 65, 3) := by decide +kernel
theorem dX8_obey_196 : decode cX8_obey 196 = .ok (.aload_n 0, 1) := by decide +kernel
theorem dX8_obey_197 : decode cX8_obey 197 = .ok (.aload_n 0, 1) := by decide +kernel
theorem dX8_obey_198 : decode cX8_obey 198 = .ok (.getfield 46, 3) := by decide +kernel
theorem dX8_obey_201 : decode cX8_obey 201 = .ok (.invokevirtual 99, 3) := by decide +kernel
theorem dX8_obey_204 : decode cX8_obey 204 = .ok (.aload_n 0, 1) := by decide +kernel
theorem dX8_obey_205 : decode cX8_obey 205 = .ok (.aload_n 0, 1) := by decide +kernel
theorem dX8_obey_206 : decode cX8_obey 206 = .ok (.getfield 19, 3) := by decide +kernel
theorem dX8_obey_209 : decode cX8_obey 209 = .ok (.invokevirtual 110, 3) := by decide +kernel
theorem dX8_obey_212 : decode cX8_obey 212 = .ok (.putfield 46, 3) := by decide +kernel
theorem dX8_obey_215 : decode cX8_obey 215 = .ok (.aload_n 0, 1) := by decide +kernel
theorem dX8_obey_216 : decode cX8_obey 216 = .ok (.dup, 1) := by decide +kernel
theorem dX8_obey_217 : decode cX8_obey 217 = .ok (.getfield 43, 3) := by decide +kernel
theorem dX8_obey_220 : decode cX8_obey 220 = .ok (.iconst 1, 1) := by decide +kernel
theorem dX8_obey_221 : decode cX8_obey 221 = .ok (.iadd, 1) := by decide +kernel
theorem dX8_obey_222 : decode cX8_obey 222 = .ok (.putfield 43, 3) := by decide +kernel
theorem dX8_obey_225 : decode cX8_obey 225 = .ok (.goto 33, 3) := by decide +kernel
theorem dX8_obey_228 : decode cX8_obey 228 = .ok (.aload_n 0, 1) := by decide +kernel
theorem dX8_obey_229 : decode cX8_obey 229 = .ok (.aload_n 0, 1) := by decide +kernel
theorem dX8_obey_230 : decode cX8_obey 230 = .ok (.invokevirtual 103, 3) := by decide +kernel
theorem dX8_obey_233 : decode cX8_obey 233 = .ok (.putfield 46, 3) := by decide +kernel
theorem dX8_obey_236 : decode cX8_obey 236 = .ok (.aload_n 0, 1) := by decide +kernel
theorem dX8_obey_237 : decode cX8_obey 237 = .ok (.dup, 1) := by decide +kernel
theorem dX8_obey_238 : decode cX8_obey 238 = .ok (.getfield 43, 3) := by decide +kernel
theorem dX8_obey_241 : decode cX8_obey 241 = .ok (.iconst 1, 1) := by decide +kernel
theorem dX8_obey_242 : decode cX8_obey 242 = .ok (.iadd, 1) := by decide +kernel
theorem dX8_obey_243 : decode cX8_obey 243 = .ok (.putfield 43, 3) := by decide +kernel
theorem dX8_obey_246 : decode cX8_obey 246 = .ok (.goto 12, 3) := by decide +kernel
theorem dX8_obey_249 : decode cX8_obey 249 = .ok (.aload_n 0, 1) := by decide +kernel
theorem dX8_obey_250 : decode cX8_obey 250 = .ok (.aload_n 0, 1) := by decide +kernel
theorem dX8_obey_251 : decode cX8_obey 251 = .ok (.invokevirtual 103, 3) := by decide +kernel
theorem dX8_obey_254 : decode cX8_obey 254 = .ok (.l2i, 1) := by decide +kernel
theorem dX8_obey_255 : decode cX8_obey 255 = .ok (.putfield 43, 3) := by decide +kernel
theorem dX8_obey_258 : decode cX8_obey 258 = .ok (.return_, 1) := by decide +kernel
abbrev rm_f_X8_obey : Room := { frames := 3, cells := 0, slots := 0, locals := 64 }
def f_X8_obey (N : Nat) (o0 : Nat) (a0 : Int) (a1 : Int) (t : St) : Option (St) :=
    rnI a0 (if a0 = 19 then (lt1 (t.1 (307 + o0) 3) fun v1 =>
    rnI (v1 + 1) (
    bdV (f_X8_push N o0 (Int64.ofInt (v1 + 1)) t) fun t2 =>
    ixI a1 60 (lt1 (t2.1 360 a1.toNat) fun v3 =>
    lt1 (pI t2 (307 + o0) 3 v3) fun t4 =>
    some t4)))
    else (if a0 = 20 then (rnI a1 (
    bdV (f_X8_push N o0 (Int64.ofInt a1) t) fun t5 =>
    lt1 (t5.1 (307 + o0) 3) fun v6 =>
    lt1 (pI t5 (307 + o0) 3 (v6 + 1)) fun t7 =>
    some t7))
    else (if a0 = 21 then (bdL (f_X8_pop N o0 t) fun v9 t8 =>
    bdV (f_X8_push N o0 (v9 - (1 : Int64)) t8) fun t10 =>
    bdL (f_X8_top N o0 t10) fun v12 t11 =>
    jn1 (fun (j13 : Int) (t14 : St) => bdV (f_X8_leaveIf N o0 j13 a1 t14) fun t16 =>
    some t16) fun J15 =>
    (if v12 < (0 : Int64) then (J15 1 t11)
    else (J15 0 t11)))
    else (if a0 = 22 then (bdL (f_X8_pop N o0 t) fun v18 t17 =>
    bdV (f_X8_push N o0 (v18 - (1 : Int64)) t17) fun t19 =>
    bdL (f_X8_top N o0 t19) fun v21 t20 =>
    jn1 (fun (j22 : Int) (t23 : St) => bdV (f_X8_leaveIf N o0 j22 a1 t23) fun t25 =>
    some t25) fun J24 =>
    (if v21 < (0 : Int64) then (J24 1 t20)
    else (J24 0 t20)))
    else (if a0 = 23 then (bdL (f_X8_pop N o0 t) fun v27 t26 =>
    lt1 (pI t26 (307 + o0) 3 v27.toInt) fun t28 =>
    some t28)
    else (if a0 = 24 then (bdL (f_X1_value N t) fun v30 t29 =>
    jn1 (fun (j31 : Int) (t32 : St) => bdV (f_X8_leaveIf N o0 j31 a1 t32) fun t34 =>
    some t34) fun J33 =>
    (if v30 = (0 : Int64) then (J33 0 t29)
    else (J33 1 t29)))
    else (if a0 = 25 then (bdL (f_X1_value N t) fun v36 t35 =>
    (if v36 = (0 : Int64) then (lt1 (pI t35 (307 + o0) 3 a1) fun t37 =>
    some t37)
    else (lt1 (t35.1 (307 + o0) 3) fun v38 =>
    lt1 (pI t35 (307 + o0) 3 (v38 + 1)) fun t39 =>
    some t39)))
    else (if a0 = 26 then (lt1 (pI t (307 + o0) 3 a1) fun t40 =>
    some t40)
    else (if a0 = 27 then (lt1 (t.2 (307 + o0) 4) fun v41 =>
    bdV (f_X8_push N o0 v41 t) fun t42 =>
    bdL (f_X1_value N t42) fun v44 t43 =>
    lt1 (pL t43 (307 + o0) 4 v44) fun t45 =>
    lt1 (t45.1 (307 + o0) 3) fun v46 =>
    lt1 (pI t45 (307 + o0) 3 (v46 + 1)) fun t47 =>
    some t47)
    else (if a0 = 28 then (bdL (f_X8_pop N o0 t) fun v49 t48 =>
    lt1 (pL t48 (307 + o0) 4 v49) fun t50 =>
    lt1 (t50.1 (307 + o0) 3) fun v51 =>
    lt1 (pI t50 (307 + o0) 3 (v51 + 1)) fun t52 =>
    some t52)
    else (bdL (f_X8_pop N o0 t) fun v54 t53 =>
    lt1 (pI t53 (307 + o0) 3 v54.toInt) fun t55 =>
    some t55)))))))))))
set_option maxHeartbeats 4000000 in
set_option maxRecDepth 100000 in
theorem b_f_X8_obey {p : Program} {l : Launch} {e : Env} {s : State} {m : MethodId} {args : Array Value} {below : List Frame} {meth : Method} {c : Code} {E : cE} {A : Nat → Prop} {r : Nat → Nat} {mc ms : Nat} {z : St} {N : Nat} {o0 : Nat} (ho0 : o0 < 2) {a0 : Int} {a1 : Int} {t : St} (X : gX p s m meth c cX8_obey 3 none yX8_obey args E A) (h : f_X8_obey N o0 a0 a1 t = some z) : gP p l e rm_f_X8_obey s m args below meth c E A 3 (MQ below ((gqV E (gW E r shH) z) A) args s mc ms A) (gW E r shH) 0 [(0, .ref (r (307 + o0))), (1, iv a0), (2, iv a1)] [] t := by
  unfold f_X8_obey at h
  refine g_iload_n X dX8_obey_0 1 rfl ?_
  obtain ⟨hr9, h⟩ := rnI_some h
  by_cases e9_19 : a0 = 19
  · rw [if_pos e9_19] at h
    refine g_tableIn X (tgt := 56) (off := 55) dX8_obey_1 (k := 19) hr9 e9_19 (by decide) (by decide) rfl (by decide) ?_
    refine g_aload_n X dX8_obey_56 0 rfl ?_
    refine g_aload_n X dX8_obey_57 0 rfl ?_
    refine g_getI X (fH_X8_43_o (o := o0) ho0) rfl dX8_obey_58 h (fun v1 h => ?_)
    refine g_iconst X dX8_obey_61 ?_
    refine g_iadd X dX8_obey_62 ?_
    refine g_i2l X dX8_obey_63 h (fun h => ?_)
    refine g_callOV (rest := []) X (fun u9 h9 => cp_X8_push l E r N o0 ho0 (Int64.ofInt (v1 + 1)) t u9 h9) yy_X8_push yi_X8_push wdM_RX8_99 (oX8 (o := o0) ho0) rfl rfl rfl (Nat.le_of_ble_eq_true rfl) dX8_obey_64 ⟨by decide, by decide⟩ ⟨rfl, rfl⟩ h (fun t2 h => ?_)
    refine g_aload_n X dX8_obey_67 0 rfl ?_
    refine g_aload_n X dX8_obey_68 0 rfl ?_
    refine g_getR X (fH_X8_15_o (o := o0) ho0) rfl dX8_obey_69 ?_
    refine g_getR X fH_X8_37_302 rfl dX8_obey_72 ?_
    refine g_iload_n X dX8_obey_75 2 rfl ?_
    refine g_iald X aH_360 dX8_obey_76 h (fun v3 h => ?_)
    refine g_putI X (fH_X8_43_ow (o := o0) ho0) rfl dX8_obey_77 h (fun t4 h => ?_)
    refine g_goto (tgt := 258) X dX8_obey_80 (by decide) ?_
    exact g_vret X h dX8_obey_258
  · rw [if_neg e9_19] at h
    by_cases e9_20 : a0 = 20
    · rw [if_pos e9_20] at h
      refine g_tableIn X (tgt := 83) (off := 82) dX8_obey_1 (k := 20) hr9 e9_20 (by decide) (by decide) rfl (by decide) ?_
      refine g_aload_n X dX8_obey_83 0 rfl ?_
      refine g_iload_n X dX8_obey_84 2 rfl ?_
      refine g_i2l X dX8_obey_85 h (fun h => ?_)
      refine g_callOV (rest := []) X (fun u9 h9 => cp_X8_push l E r N o0 ho0 (Int64.ofInt a1) t u9 h9) yy_X8_push yi_X8_push wdM_RX8_99 (oX8 (o := o0) ho0) rfl rfl rfl (Nat.le_of_ble_eq_true rfl) dX8_obey_86 ⟨by decide, by decide⟩ ⟨rfl, rfl⟩ h (fun t5 h => ?_)
      refine g_aload_n X dX8_obey_89 0 rfl ?_
      refine g_dup X rfl dX8_obey_90 ?_
      refine g_getI X (fH_X8_43_o (o := o0) ho0) rfl dX8_obey_91 h (fun v6 h => ?_)
      refine g_iconst X dX8_obey_94 ?_
      refine g_iadd X dX8_obey_95 ?_
      refine g_putI X (fH_X8_43_ow (o := o0) ho0) rfl dX8_obey_96 h (fun t7 h => ?_)
      refine g_goto (tgt := 258) X dX8_obey_99 (by decide) ?_
      exact g_vret X h dX8_obey_258
    · rw [if_neg e9_20] at h
      by_cases e9_21 : a0 = 21
      · rw [if_pos e9_21] at h
        refine g_tableIn X (tgt := 102) (off := 101) dX8_obey_1 (k := 21) hr9 e9_21 (by decide) (by decide) rfl (by decide) ?_
        refine g_aload_n X dX8_obey_102 0 rfl ?_
        refine g_aload_n X dX8_obey_103 0 rfl ?_
        refine g_callOL (rest := [.ref (r (307 + o0))]) X (fun u9 h9 => cp_X8_pop l E r N o0 ho0 t u9 h9) yy_X8_pop yi_X8_pop wdM_RX8_103 (oX8 (o := o0) ho0) rfl rfl rfl (Nat.le_of_ble_eq_true rfl) dX8_obey_104 ⟨by decide, by decide⟩ ⟨rfl, rfl⟩ h (fun v9 t8 h => ?_)
        refine g_lconst (v := 1) X dX8_obey_107 (by decide) ?_
        refine g_lsub X dX8_obey_108 ?_
        refine g_callOV (rest := []) X (fun u9 h9 => cp_X8_push l E r N o0 ho0 (v9 - (1 : Int64)) t8 u9 h9) yy_X8_push yi_X8_push wdM_RX8_99 (oX8 (o := o0) ho0) rfl rfl rfl (Nat.le_of_ble_eq_true rfl) dX8_obey_109 ⟨by decide, by decide⟩ ⟨rfl, rfl⟩ h (fun t10 h => ?_)
        refine g_aload_n X dX8_obey_112 0 rfl ?_
        refine g_aload_n X dX8_obey_113 0 rfl ?_
        refine g_callOL (rest := [.ref (r (307 + o0))]) X (fun u9 h9 => cp_X8_top l E r N o0 ho0 t10 u9 h9) yy_X8_top yi_X8_top wdM_RX8_95 (oX8 (o := o0) ho0) rfl rfl rfl (Nat.le_of_ble_eq_true rfl) dX8_obey_114 ⟨by decide, by decide⟩ ⟨rfl, rfl⟩ h (fun v12 t11 h => ?_)
        refine g_lconst (v := 0) X dX8_obey_117 (by decide) ?_
        refine g_join (J := fun jj => ∀ (j13 : Int) (t14 : St), jj j13 t14 = some z → gP p l e rm_f_X8_obey s m args below meth c E A 3 (MQ below ((gqV E (gW E r shH) z) A) args s mc ms A) (gW E r shH) 127 [(2, iv a1)] [iv j13, .ref (r (307 + o0))] t14) h (fun j13 t14 h => ?_) (fun J15 hJ15 h => ?_)
        · refine g_iload_n X dX8_obey_127 0 rfl ?_
          refine g_callOV (rest := []) X (fun u9 h9 => cp_X8_leaveIf l E r N o0 ho0 j13 a1 t14 u9 h9) yy_X8_leaveIf yi_X8_leaveIf wdM_RX8_106 (oX8 (o := o0) ho0) rfl rfl rfl (Nat.le_of_ble_eq_true rfl) dX8_obey_128 ⟨by decide, by decide⟩ ⟨rfl, rfl⟩ h (fun t16 h => ?_)
          refine g_goto (tgt := 258) X dX8_obey_131 (by decide) ?_
          exact g_vret X h dX8_obey_258
        refine g_lcmp_ge (tgt := 126) X dX8_obey_118 dX8_obey_119 (by decide) h (fun h => ?_) (fun h => ?_)
        · refine g_iconst X dX8_obey_126 ?_
          exact g_sub (lv' := [(2, iv a1)]) [2] rfl (hJ15 0 t11 h)
        · refine g_iconst X dX8_obey_122 ?_
          refine g_goto (tgt := 127) X dX8_obey_123 (by decide) ?_
          exact g_sub (lv' := [(2, iv a1)]) [2] rfl (hJ15 1 t11 h)
      · rw [if_neg e9_21] at h
        by_cases e9_22 : a0 = 22
        · rw [if_pos e9_22] at h
          refine g_tableIn X (tgt := 102) (off := 101) dX8_obey_1 (k := 22) hr9 e9_22 (by decide) (by decide) rfl (by decide) ?_
          refine g_aload_n X dX8_obey_102 0 rfl ?_
          refine g_aload_n X dX8_obey_103 0 rfl ?_
          refine g_callOL (rest := [.ref (r (307 + o0))]) X (fun u9 h9 => cp_X8_pop l E r N o0 ho0 t u9 h9) yy_X8_pop yi_X8_pop wdM_RX8_103 (oX8 (o := o0) ho0) rfl rfl rfl (Nat.le_of_ble_eq_true rfl) dX8_obey_104 ⟨by decide, by decide⟩ ⟨rfl, rfl⟩ h (fun v18 t17 h => ?_)
          refine g_lconst (v := 1) X dX8_obey_107 (by decide) ?_
          refine g_lsub X dX8_obey_108 ?_
          refine g_callOV (rest := []) X (fun u9 h9 => cp_X8_push l E r N o0 ho0 (v18 - (1 : Int64)) t17 u9 h9) yy_X8_push yi_X8_push wdM_RX8_99 (oX8 (o := o0) ho0) rfl rfl rfl (Nat.le_of_ble_eq_true rfl) dX8_obey_109 ⟨by decide, by decide⟩ ⟨rfl, rfl⟩ h (fun t19 h => ?_)
          refine g_aload_n X dX8_obey_112 0 rfl ?_
          refine g_aload_n X dX8_obey_113 0 rfl ?_
          refine g_callOL (rest := [.ref (r (307 + o0))]) X (fun u9 h9 => cp_X8_top l E r N o0 ho0 t19 u9 h9) yy_X8_top yi_X8_top wdM_RX8_95 (oX8 (o := o0) ho0) rfl rfl rfl (Nat.le_of_ble_eq_true rfl) dX8_obey_114 ⟨by decide, by decide⟩ ⟨rfl, rfl⟩ h (fun v21 t20 h => ?_)
          refine g_lconst (v := 0) X dX8_obey_117 (by decide) ?_
          refine g_join (J := fun jj => ∀ (j22 : Int) (t23 : St), jj j22 t23 = some z → gP p l e rm_f_X8_obey s m args below meth c E A 3 (MQ below ((gqV E (gW E r shH) z) A) args s mc ms A) (gW E r shH) 127 [(2, iv a1)] [iv j22, .ref (r (307 + o0))] t23) h (fun j22 t23 h => ?_) (fun J24 hJ24 h => ?_)
          · refine g_iload_n X dX8_obey_127 0 rfl ?_
            refine g_callOV (rest := []) X (fun u9 h9 => cp_X8_leaveIf l E r N o0 ho0 j22 a1 t23 u9 h9) yy_X8_leaveIf yi_X8_leaveIf wdM_RX8_106 (oX8 (o := o0) ho0) rfl rfl rfl (Nat.le_of_ble_eq_true rfl) dX8_obey_128 ⟨by decide, by decide⟩ ⟨rfl, rfl⟩ h (fun t25 h => ?_)
            refine g_goto (tgt := 258) X dX8_obey_131 (by decide) ?_
            exact g_vret X h dX8_obey_258
          refine g_lcmp_ge (tgt := 126) X dX8_obey_118 dX8_obey_119 (by decide) h (fun h => ?_) (fun h => ?_)
          · refine g_iconst X dX8_obey_126 ?_
            exact g_sub (lv' := [(2, iv a1)]) [2] rfl (hJ24 0 t20 h)
          · refine g_iconst X dX8_obey_122 ?_
            refine g_goto (tgt := 127) X dX8_obey_123 (by decide) ?_
            exact g_sub (lv' := [(2, iv a1)]) [2] rfl (hJ24 1 t20 h)
        · rw [if_neg e9_22] at h
          by_cases e9_23 : a0 = 23
          · rw [if_pos e9_23] at h
            refine g_tableIn X (tgt := 249) (off := 248) dX8_obey_1 (k := 23) hr9 e9_23 (by decide) (by decide) rfl (by decide) ?_
            refine g_aload_n X dX8_obey_249 0 rfl ?_
            refine g_aload_n X dX8_obey_250 0 rfl ?_
            refine g_callOL (rest := [.ref (r (307 + o0))]) X (fun u9 h9 => cp_X8_pop l E r N o0 ho0 t u9 h9) yy_X8_pop yi_X8_pop wdM_RX8_103 (oX8 (o := o0) ho0) rfl rfl rfl (Nat.le_of_ble_eq_true rfl) dX8_obey_251 ⟨by decide, by decide⟩ ⟨rfl, rfl⟩ h (fun v27 t26 h => ?_)
            refine g_l2i X dX8_obey_254 ?_
            refine g_putI X (fH_X8_43_ow (o := o0) ho0) rfl dX8_obey_255 h (fun t28 h => ?_)
            exact g_vret X h dX8_obey_258
          · rw [if_neg e9_23] at h
            by_cases e9_24 : a0 = 24
            · rw [if_pos e9_24] at h
              refine g_tableIn X (tgt := 134) (off := 133) dX8_obey_1 (k := 24) hr9 e9_24 (by decide) (by decide) rfl (by decide) ?_
              refine g_aload_n X dX8_obey_134 0 rfl ?_
              refine g_aload_n X dX8_obey_135 0 rfl ?_
              refine g_getR X (fH_X8_19_o (o := o0) ho0) rfl dX8_obey_136 ?_
              refine g_callOL (rest := [.ref (r (307 + o0))]) X (fun u9 h9 => cp_X1_value l E r N t u9 h9) yy_X1_value yi_X1_value wdM_RX8_110 ⟨_, _, oH_304⟩ rfl rfl rfl (Nat.le_of_ble_eq_true rfl) dX8_obey_139 ⟨by decide, by decide⟩ ⟨rfl, rfl⟩ h (fun v30 t29 h => ?_)
              refine g_lconst (v := 0) X dX8_obey_142 (by decide) ?_
              refine g_join (J := fun jj => ∀ (j31 : Int) (t32 : St), jj j31 t32 = some z → gP p l e rm_f_X8_obey s m args below meth c E A 3 (MQ below ((gqV E (gW E r shH) z) A) args s mc ms A) (gW E r shH) 152 [(2, iv a1)] [iv j31, .ref (r (307 + o0))] t32) h (fun j31 t32 h => ?_) (fun J33 hJ33 h => ?_)
              · refine g_iload_n X dX8_obey_152 0 rfl ?_
                refine g_callOV (rest := []) X (fun u9 h9 => cp_X8_leaveIf l E r N o0 ho0 j31 a1 t32 u9 h9) yy_X8_leaveIf yi_X8_leaveIf wdM_RX8_106 (oX8 (o := o0) ho0) rfl rfl rfl (Nat.le_of_ble_eq_true rfl) dX8_obey_153 ⟨by decide, by decide⟩ ⟨rfl, rfl⟩ h (fun t34 h => ?_)
                refine g_goto (tgt := 258) X dX8_obey_156 (by decide) ?_
                exact g_vret X h dX8_obey_258
              refine g_lcmp_eq (tgt := 151) X dX8_obey_143 dX8_obey_144 (by decide) h (fun h => ?_) (fun h => ?_)
              · refine g_iconst X dX8_obey_151 ?_
                exact g_sub (lv' := [(2, iv a1)]) [2] rfl (hJ33 0 t29 h)
              · refine g_iconst X dX8_obey_147 ?_
                refine g_goto (tgt := 152) X dX8_obey_148 (by decide) ?_
                exact g_sub (lv' := [(2, iv a1)]) [2] rfl (hJ33 1 t29 h)
            · rw [if_neg e9_24] at h
              by_cases e9_25 : a0 = 25
              · rw [if_pos e9_25] at h
                refine g_tableIn X (tgt := 159) (off := 158) dX8_obey_1 (k := 25) hr9 e9_25 (by decide) (by decide) rfl (by decide) ?_
                refine g_aload_n X dX8_obey_159 0 rfl ?_
                refine g_aload_n X dX8_obey_160 0 rfl ?_
                refine g_getR X (fH_X8_19_o (o := o0) ho0) rfl dX8_obey_161 ?_
                refine g_callOL (rest := [.ref (r (307 + o0))]) X (fun u9 h9 => cp_X1_value l E r N t u9 h9) yy_X1_value yi_X1_value wdM_RX8_110 ⟨_, _, oH_304⟩ rfl rfl rfl (Nat.le_of_ble_eq_true rfl) dX8_obey_164 ⟨by decide, by decide⟩ ⟨rfl, rfl⟩ h (fun v36 t35 h => ?_)
                refine g_lconst (v := 0) X dX8_obey_167 (by decide) ?_
                refine g_lcmp_eq (tgt := 181) X dX8_obey_168 dX8_obey_169 (by decide) h (fun h => ?_) (fun h => ?_)
                · refine g_iload_n X dX8_obey_181 2 rfl ?_
                  refine g_putI X (fH_X8_43_ow (o := o0) ho0) rfl dX8_obey_182 h (fun t37 h => ?_)
                  refine g_goto (tgt := 258) X dX8_obey_185 (by decide) ?_
                  exact g_vret X h dX8_obey_258
                · refine g_aload_n X dX8_obey_172 0 rfl ?_
                  refine g_getI X (fH_X8_43_o (o := o0) ho0) rfl dX8_obey_173 h (fun v38 h => ?_)
                  refine g_iconst X dX8_obey_176 ?_
                  refine g_iadd X dX8_obey_177 ?_
                  refine g_goto (tgt := 182) X dX8_obey_178 (by decide) ?_
                  refine g_putI X (fH_X8_43_ow (o := o0) ho0) rfl dX8_obey_182 h (fun t39 h => ?_)
                  refine g_goto (tgt := 258) X dX8_obey_185 (by decide) ?_
                  exact g_vret X h dX8_obey_258
              · rw [if_neg e9_25] at h
                by_cases e9_26 : a0 = 26
                · rw [if_pos e9_26] at h
                  refine g_tableIn X (tgt := 188) (off := 187) dX8_obey_1 (k := 26) hr9 e9_26 (by decide) (by decide) rfl (by decide) ?_
                  refine g_aload_n X dX8_obey_188 0 rfl ?_
                  refine g_iload_n X dX8_obey_189 2 rfl ?_
                  refine g_putI X (fH_X8_43_ow (o := o0) ho0) rfl dX8_obey_190 h (fun t40 h => ?_)
                  refine g_goto (tgt := 258) X dX8_obey_193 (by decide) ?_
                  exact g_vret X h dX8_obey_258
                · rw [if_neg e9_26] at h
                  by_cases e9_27 : a0 = 27
                  · rw [if_pos e9_27] at h
                    refine g_tableIn X (tgt := 196) (off := 195) dX8_obey_1 (k := 27) hr9 e9_27 (by decide) (by decide) rfl (by decide) ?_
                    refine g_aload_n X dX8_obey_196 0 rfl ?_
                    refine g_aload_n X dX8_obey_197 0 rfl ?_
                    refine g_getL X (fH_X8_46_o (o := o0) ho0) rfl dX8_obey_198 h (fun v41 h => ?_)
                    refine g_callOV (rest := []) X (fun u9 h9 => cp_X8_push l E r N o0 ho0 v41 t u9 h9) yy_X8_push yi_X8_push wdM_RX8_99 (oX8 (o := o0) ho0) rfl rfl rfl (Nat.le_of_ble_eq_true rfl) dX8_obey_201 ⟨by decide, by decide⟩ ⟨rfl, rfl⟩ h (fun t42 h => ?_)
                    refine g_aload_n X dX8_obey_204 0 rfl ?_
                    refine g_aload_n X dX8_obey_205 0 rfl ?_
                    refine g_getR X (fH_X8_19_o (o := o0) ho0) rfl dX8_obey_206 ?_
                    refine g_callOL (rest := [.ref (r (307 + o0))]) X (fun u9 h9 => cp_X1_value l E r N t42 u9 h9) yy_X1_value yi_X1_value wdM_RX8_110 ⟨_, _, oH_304⟩ rfl rfl rfl (Nat.le_of_ble_eq_true rfl) dX8_obey_209 ⟨by decide, by decide⟩ ⟨rfl, rfl⟩ h (fun v44 t43 h => ?_)
                    refine g_putL X (fH_X8_46_ow (o := o0) ho0) rfl dX8_obey_212 h (fun t45 h => ?_)
                    refine g_aload_n X dX8_obey_215 0 rfl ?_
                    refine g_dup X rfl dX8_obey_216 ?_
                    refine g_getI X (fH_X8_43_o (o := o0) ho0) rfl dX8_obey_217 h (fun v46 h => ?_)
                    refine g_iconst X dX8_obey_220 ?_
                    refine g_iadd X dX8_obey_221 ?_
                    refine g_putI X (fH_X8_43_ow (o := o0) ho0) rfl dX8_obey_222 h (fun t47 h => ?_)
                    refine g_goto (tgt := 258) X dX8_obey_225 (by decide) ?_
                    exact g_vret X h dX8_obey_258
                  · rw [if_neg e9_27] at h
                    by_cases e9_28 : a0 = 28
                    · rw [if_pos e9_28] at h
                      refine g_tableIn X (tgt := 228) (off := 227) dX8_obey_1 (k := 28) hr9 e9_28 (by decide) (by decide) rfl (by decide) ?_
                      refine g_aload_n X dX8_obey_228 0 rfl ?_
                      refine g_aload_n X dX8_obey_229 0 rfl ?_
                      refine g_callOL (rest := [.ref (r (307 + o0))]) X (fun u9 h9 => cp_X8_pop l E r N o0 ho0 t u9 h9) yy_X8_pop yi_X8_pop wdM_RX8_103 (oX8 (o := o0) ho0) rfl rfl rfl (Nat.le_of_ble_eq_true rfl) dX8_obey_230 ⟨by decide, by decide⟩ ⟨rfl, rfl⟩ h (fun v49 t48 h => ?_)
                      refine g_putL X (fH_X8_46_ow (o := o0) ho0) rfl dX8_obey_233 h (fun t50 h => ?_)
                      refine g_aload_n X dX8_obey_236 0 rfl ?_
                      refine g_dup X rfl dX8_obey_237 ?_
                      refine g_getI X (fH_X8_43_o (o := o0) ho0) rfl dX8_obey_238 h (fun v51 h => ?_)
                      refine g_iconst X dX8_obey_241 ?_
                      refine g_iadd X dX8_obey_242 ?_
                      refine g_putI X (fH_X8_43_ow (o := o0) ho0) rfl dX8_obey_243 h (fun t52 h => ?_)
                      refine g_goto (tgt := 258) X dX8_obey_246 (by decide) ?_
                      exact g_vret X h dX8_obey_258
                    · rw [if_neg e9_28] at h
                      refine g_tableOut X (tgt := 249) dX8_obey_1 hr9 (by omega) (by decide) ?_
                      refine g_aload_n X dX8_obey_249 0 rfl ?_
                      refine g_aload_n X dX8_obey_250 0 rfl ?_
                      refine g_callOL (rest := [.ref (r (307 + o0))]) X (fun u9 h9 => cp_X8_pop l E r N o0 ho0 t u9 h9) yy_X8_pop yi_X8_pop wdM_RX8_103 (oX8 (o := o0) ho0) rfl rfl rfl (Nat.le_of_ble_eq_true rfl) dX8_obey_251 ⟨by decide, by decide⟩ ⟨rfl, rfl⟩ h (fun v54 t53 h => ?_)
                      refine g_l2i X dX8_obey_254 ?_
                      refine g_putI X (fH_X8_43_ow (o := o0) ho0) rfl dX8_obey_255 h (fun t55 h => ?_)
                      exact g_vret X h dX8_obey_258
set_option maxHeartbeats 4000000 in
set_option maxRecDepth 100000 in
theorem cp_X8_obey (l : Launch) (E : cE) (r : Nat → Nat) (N : Nat) (o0 : Nat) (ho0 : o0 < 2) (a0 : Int) (a1 : Int) (t : St) (z : St) (h : f_X8_obey N o0 a0 a1 t = some z) : cM l E yX8_obey cX8_obey 3 none rm_f_X8_obey [.ref (r (307 + o0)), iv a0, iv a1] (gW E r shH t) (gqV E (gW E r shH) z) := by
  refine g_of (w := gW E r shH) (by decide) (Nat.le_of_ble_eq_true rfl) ?_
  intro p e s m below meth c A X
  exact g_sub (lv' := [(0, .ref (r (307 + o0))), (1, iv a0), (2, iv a1)]) [0, 1, 2] rfl (b_f_X8_obey ho0 X h)
theorem yy_X8_obey : cY yX8_obey cX8_obey 3 none 2 := ⟨wdK_X8_obey, wdZ_RX8, by decide +kernel⟩
theorem yi_X8_obey : cYi yX8_obey := ⟨wdN_X8_obey, wdS_X8_obey⟩
theorem dX8_goOn_0 : decode cX8_goOn 0 = .ok (.aload_n 0, 1) := by decide +kernel
theorem dX8_goOn_1 : decode cX8_goOn 1 = .ok (.iconst 0, 1) := by decide +kernel
theorem dX8_goOn_2 : decode cX8_goOn 2 = .ok (.putfield 53, 3) := by decide +kernel
theorem dX8_goOn_5 : decode cX8_goOn 5 = .ok (.iconst 0, 1) := by decide +kernel
theorem dX8_goOn_6 : decode cX8_goOn 6 = .ok (.istore_n 2, 1) := by decide +kernel
theorem dX8_goOn_7 : decode cX8_goOn 7 = .ok (.iload_n 2, 1) := by decide +kernel
theorem dX8_goOn_8 : decode cX8_goOn 8 = .ok (.ldc 56, 2) := by decide +kernel
theorem dX8_goOn_10 : decode cX8_goOn 10 = .ok (.if_icmp .ge 121, 3) := by decide +kernel
theorem dX8_goOn_13 : decode cX8_goOn 13 = .ok (.aload_n 0, 1) := by decide +kernel
theorem dX8_goOn_14 : decode cX8_goOn 14 = .ok (.getfield 15, 3) := by decide +kernel
theorem dX8_goOn_17 : decode cX8_goOn 17 = .ok (.aload_n 0, 1) := by decide +kernel
theorem dX8_goOn_18 : decode cX8_goOn 18 = .ok (.getfield 43, 3) := by decide +kernel
theorem dX8_goOn_21 : decode cX8_goOn 21 = .ok (.invokevirtual 57, 3) := by decide +kernel
theorem dX8_goOn_24 : decode cX8_goOn 24 = .ok (.istore_n 3, 1) := by decide +kernel
theorem dX8_goOn_25 : decode cX8_goOn 25 = .ok (.aload_n 0, 1) := by decide +kernel
theorem dX8_goOn_26 : decode cX8_goOn 26 = .ok (.getfield 15, 3) := by decide +kernel
theorem dX8_goOn_29 : decode cX8_goOn 29 = .ok (.aload_n 0, 1) := by decide +kernel
theorem dX8_goOn_30 : decode cX8_goOn 30 = .ok (.getfield 43, 3) := by decide +kernel
theorem dX8_goOn_33 : decode cX8_goOn 33 = .ok (.invokevirtual 61, 3) := by decide +kernel
theorem dX8_goOn_36 : decode cX8_goOn 36 = .ok (.istore 4, 2) := by decide +kernel
theorem dX8_goOn_38 : decode cX8_goOn 38 = .ok (.iload_n 3, 1) := by decide +kernel
theorem dX8_goOn_39 : decode cX8_goOn 39 = .ok (.bipush 16, 2) := by decide +kernel
theorem dX8_goOn_41 : decode cX8_goOn 41 = .ok (.if_icmp .gt 9, 3) := by decide +kernel
theorem dX8_goOn_44 : decode cX8_goOn 44 = .ok (.aload_n 0, 1) := by decide +kernel
theorem dX8_goOn_45 : decode cX8_goOn 45 = .ok (.aload_n 1, 1) := by decide +kernel
theorem dX8_goOn_46 : decode cX8_goOn 46 = .ok (.invokevirtual 64, 3) := by decide +kernel
theorem dX8_goOn_49 : decode cX8_goOn 49 = .ok (.ireturn, 1) := by decide +kernel
theorem dX8_goOn_50 : decode cX8_goOn 50 = .ok (.iload_n 3, 1) := by decide +kernel
theorem dX8_goOn_51 : decode cX8_goOn 51 = .ok (.bipush 29, 2) := by decide +kernel
theorem dX8_goOn_53 : decode cX8_goOn 53 = .ok (.if_icmp .ne 12, 3) := by decide +kernel
theorem dX8_goOn_56 : decode cX8_goOn 56 = .ok (.aload_n 0, 1) := by decide +kernel
theorem dX8_goOn_57 : decode cX8_goOn 57 = .ok (.getfield 50, 3) := by decide +kernel
theorem dX8_goOn_60 : decode cX8_goOn 60 = .ok (.ifCond .ne 5, 3) := by decide +kernel
theorem dX8_goOn_63 : decode cX8_goOn 63 = .ok (.iconst 0, 1) := by decide +kernel
theorem dX8_goOn_64 : decode cX8_goOn 64 = .ok (.ireturn, 1) := by decide +kernel
theorem dX8_goOn_65 : decode cX8_goOn 65 = .ok (.aload_n 0, 1) := by decide +kernel
theorem dX8_goOn_66 : decode cX8_goOn 66 = .ok (.aload_n 0, 1) := by decide +kernel
theorem dX8_goOn_67 : decode cX8_goOn 67 = .ok (.iload_n 3, 1) := by decide +kernel
theorem dX8_goOn_68 : decode cX8_goOn 68 = .ok (.iload 4, 2) := by decide +kernel
theorem dX8_goOn_70 : decode cX8_goOn 70 = .ok (.invokevirtual 68, 3) := by decide +kernel
theorem dX8_goOn_73 : decode cX8_goOn 73 = .ok (.invokevirtual 72, 3) := by decide +kernel
theorem dX8_goOn_76 : decode cX8_goOn 76 = .ok (.istore 5, 2) := by decide +kernel
theorem dX8_goOn_78 : decode cX8_goOn 78 = .ok (.iload 5, 2) := by decide +kernel
theorem dX8_goOn_80 : decode cX8_goOn 80 = .ok (.iconst 1, 1) := by decide +kernel
theorem dX8_goOn_81 : decode cX8_goOn 81 = .ok (.if_icmp .eq 6, 3) := by decide +kernel
theorem dX8_goOn_84 : decode cX8_goOn 84 = .ok (.iload 5, 2) := by decide +kernel
theorem dX8_goOn_86 : decode cX8_goOn 86 = .ok (.ireturn, 1) := by decide +kernel
theorem dX8_goOn_87 : decode cX8_goOn 87 = .ok (.iload_n 3, 1) := by decide +kernel
theorem dX8_goOn_88 : decode cX8_goOn 88 = .ok (.bipush 23, 2) := by decide +kernel
theorem dX8_goOn_90 : decode cX8_goOn 90 = .ok (.if_icmp .ne 28, 3) := by decide +kernel
theorem dX8_goOn_93 : decode cX8_goOn 93 = .ok (.aload_n 0, 1) := by decide +kernel
theorem dX8_goOn_94 : decode cX8_goOn 94 = .ok (.aload_n 0, 1) := by decide +kernel
theorem dX8_goOn_95 : decode cX8_goOn 95 = .ok (.getfield 19, 3) := by decide +kernel
theorem dX8_goOn_98 : decode cX8_goOn 98 = .ok (.aload_n 0, 1) := by decide +kernel
theorem dX8_goOn_99 : decode cX8_goOn 99 = .ok (.getfield 43, 3) := by decide +kernel
theorem dX8_goOn_102 : decode cX8_goOn 102 = .ok (.iconst 1, 1) := by decide +kernel
theorem dX8_goOn_103 : decode cX8_goOn 103 = .ok (.iadd, 1) := by decide +kernel
theorem dX8_goOn_104 : decode cX8_goOn 104 = .ok (.aload_n 1, 1) := by decide +kernel
theorem dX8_goOn_105 : decode cX8_goOn 105 = .ok (.aload_n 0, 1) := by decide +kernel
theorem dX8_goOn_106 : decode cX8_goOn 106 = .ok (.getfield 46, 3) := by decide +kernel
theorem dX8_goOn_109 : decode cX8_goOn 109 = .ok (.invokevirtual 75, 3) := by decide +kernel
theorem dX8_goOn_112 : decode cX8_goOn 112 = .ok (.putfield 43, 3) := by decide +kernel
theorem dX8_goOn_115 : decode cX8_goOn 115 = .ok (.goto 10, 3) := by decide +kernel
theorem dX8_goOn_118 : decode cX8_goOn 118 = .ok (.aload_n 0, 1) := by decide +kernel
theorem dX8_goOn_119 : decode cX8_goOn 119 = .ok (.iload_n 3, 1) := by decide +kernel
theorem dX8_goOn_120 : decode cX8_goOn 120 = .ok (.iload 4, 2) := by decide +kernel
theorem dX8_goOn_122 : decode cX8_goOn 122 = .ok (.invokevirtual 81, 3) := by decide +kernel
theorem dX8_goOn_125 : decode cX8_goOn 125 = .ok (.iinc 2 1, 3) := by decide +kernel
theorem dX8_goOn_128 : decode cX8_goOn 128 = .ok (.goto (-121), 3) := by decide +kernel
theorem dX8_goOn_131 : decode cX8_goOn 131 = .ok (.iconst 3, 1) := by decide +kernel
theorem dX8_goOn_132 : decode cX8_goOn 132 = .ok (.ireturn, 1) := by decide +kernel
abbrev rm_f_X8_goOn : Room := { frames := 6, cells := 0, slots := 0, locals := 173 }
def f_X8_goOn_L7 (N : Nat) (o0 : Nat) (o1 : Nat) (K4 : (St → Option (Int × St))) (K5 : (St → Option (Int × St))) : Nat → Int → St → Option (Int × St)
  | 0, _, _ => none
  | n9 + 1, x2, t3 =>
    cmpI x2 1000000 (if x2 < 1000000 then (lt1 (t3.1 (307 + o0) 3) fun v6 =>
    bdI (f_X0_kindAt N v6 t3) fun v8 t7 =>
    lt1 (t7.1 (307 + o0) 3) fun v9 =>
    bdI (f_X0_valueAt N v9 t7) fun v11 t10 =>
    cmpI v8 16 (if 16 < v8 then (jn1 (fun (t12 : St) => bdI (f_X8_actsOf N o0 v8 v11 t12) fun v15 t14 =>
    bdI (f_X8_count N o0 v15 t14) fun v17 t16 =>
    cmpI v17 1 (if v17 = 1 then (jn1 (fun (t18 : St) => f_X8_goOn_L7 N o0 o1 K4 K5 n9 (x2 + 1) t18) fun J19 =>
    cmpI v8 23 (if v8 = 23 then (lt1 (t16.1 (307 + o0) 3) fun v21 =>
    lt1 (t16.2 (307 + o0) 4) fun v22 =>
    bdI (f_X1_evaluate N o1 (v21 + 1) v22 t16) fun v24 t23 =>
    lt1 (pI t23 (307 + o0) 3 v24) fun t25 =>
    J19 t25)
    else (bdV (f_X8_obey N o0 v8 v11 t16) fun t20 =>
    J19 t20)))
    else (some (v17, t16)))) fun J13 =>
    cmpI v8 29 (if v8 = 29 then (lt1 (t10.1 (307 + o0) 6) fun v26 =>
    cmpI v26 0 (if v26 = 0 then (some (0, t10))
    else (J13 t10)))
    else (J13 t10)))
    else (K4 t10)))
    else (K5 t3))
def f_X8_goOn (N : Nat) (o0 : Nat) (o1 : Nat) (t : St) : Option (Int × St) :=
    lt1 (pI t (307 + o0) 7 0) fun t1 =>
    f_X8_goOn_L7 N o0 o1 (fun (t27 : St) => bdI (f_X8_dance N o0 o1 t27) fun v29 t28 =>
    some (v29, t28)) (fun (t30 : St) => some (3, t30)) N 0 t1
set_option maxHeartbeats 4000000 in
set_option maxRecDepth 100000 in
theorem t_f_X8_goOn_L7 {p : Program} {l : Launch} {e : Env} {s : State} {m : MethodId} {args : Array Value} {below : List Frame} {meth : Method} {c : Code} {E : cE} {A : Nat → Prop} {r : Nat → Nat} {mc ms : Nat} {z : Int × St} {o0 : Nat} (ho0 : o0 < 2) {o1 : Nat} (ho1 : o1 < 2) {N : Nat} {K4 : (St → Option (Int × St))} {K5 : (St → Option (Int × St))} (X : gX p s m meth c cX8_goOn 6 (some .int) yX8_goOn args E A) (hK4 : ∀ (t9 : St), K4 t9 = some z → gP p l e rm_f_X8_goOn s m args below meth c E A 6 (MQ below ((gqI E (gW E r shH) z) A) args s mc ms A) (gW E r shH) 44 [(0, .ref (r (307 + o0))), (1, .ref (r (305 + o1)))] [] t9) (hK5 : ∀ (t9 : St), K5 t9 = some z → gP p l e rm_f_X8_goOn s m args below meth c E A 6 (MQ below ((gqI E (gW E r shH) z) A) args s mc ms A) (gW E r shH) 131 [] [] t9) : ∀ (n9 : Nat) (x2 : Int) (t3 : St), f_X8_goOn_L7 N o0 o1 K4 K5 n9 x2 t3 = some z → gP p l e rm_f_X8_goOn s m args below meth c E A 6 (MQ below ((gqI E (gW E r shH) z) A) args s mc ms A) (gW E r shH) 7 [(0, .ref (r (307 + o0))), (1, .ref (r (305 + o1))), (2, iv x2)] [] t3 := by
  intro n9
  induction n9 with
  | zero => intro x2 t3 h; cases h
  | succ n9 ih =>
    intro x2 t3 h
    unfold f_X8_goOn_L7 at h
    refine g_iload_n X dX8_goOn_7 2 rfl ?_
    refine g_ldc (n := 1000000) X rfl wdV_RX8_56 (by decide) dX8_goOn_8 ?_
    refine g_icmp_ge (tgt := 131) X dX8_goOn_10 (by decide) h (fun h => ?_) (fun h => ?_)
    · exact g_sub (lv' := []) [] rfl (hK5 t3 h)
    · refine g_aload_n X dX8_goOn_13 0 rfl ?_
      refine g_getR X (fH_X8_15_o (o := o0) ho0) rfl dX8_goOn_14 ?_
      refine g_aload_n X dX8_goOn_17 0 rfl ?_
      refine g_getI X (fH_X8_43_o (o := o0) ho0) rfl dX8_goOn_18 h (fun v6 h => ?_)
      refine g_callOI (rest := []) X (fun u9 h9 => cp_X0_kindAt l E r N v6 t3 u9 h9) yy_X0_kindAt yi_X0_kindAt wdM_RX8_57 ⟨_, _, oH_302⟩ rfl rfl rfl (Nat.le_of_ble_eq_true rfl) dX8_goOn_21 ⟨by decide, by decide⟩ ⟨rfl, rfl⟩ h (fun v8 t7 h => ?_)
      refine g_istore_n (lv' := [(3, iv v8), (0, .ref (r (307 + o0))), (1, .ref (r (305 + o1))), (2, iv x2)]) X dX8_goOn_24 rfl (by decide) rfl ?_
      refine g_aload_n X dX8_goOn_25 1 rfl ?_
      refine g_getR X (fH_X8_15_o (o := o0) ho0) rfl dX8_goOn_26 ?_
      refine g_aload_n X dX8_goOn_29 1 rfl ?_
      refine g_getI X (fH_X8_43_o (o := o0) ho0) rfl dX8_goOn_30 h (fun v9 h => ?_)
      refine g_callOI (rest := []) X (fun u9 h9 => cp_X0_valueAt l E r N v9 t7 u9 h9) yy_X0_valueAt yi_X0_valueAt wdM_RX8_61 ⟨_, _, oH_302⟩ rfl rfl rfl (Nat.le_of_ble_eq_true rfl) dX8_goOn_33 ⟨by decide, by decide⟩ ⟨rfl, rfl⟩ h (fun v11 t10 h => ?_)
      refine g_istore (lv' := [(4, iv v11), (3, iv v8), (0, .ref (r (307 + o0))), (1, .ref (r (305 + o1))), (2, iv x2)]) X dX8_goOn_36 (by decide) rfl ?_
      refine g_iload_n X dX8_goOn_38 1 rfl ?_
      refine g_bipush X dX8_goOn_39 (by decide) ?_
      refine g_icmp_gt (tgt := 50) X dX8_goOn_41 (by decide) h (fun h => ?_) (fun h => ?_)
      · refine g_iload_n X dX8_goOn_50 1 rfl ?_
        refine g_bipush X dX8_goOn_51 (by decide) ?_
        refine g_join (J := fun jj => ∀ (t12 : St), jj  t12 = some z → gP p l e rm_f_X8_goOn s m args below meth c E A 6 (MQ below ((gqI E (gW E r shH) z) A) args s mc ms A) (gW E r shH) 65 [(0, .ref (r (307 + o0))), (1, .ref (r (305 + o1))), (2, iv x2), (3, iv v8), (4, iv v11)] [] t12) h (fun  t12 h => ?_) (fun J13 hJ13 h => ?_)
        · refine g_aload_n X dX8_goOn_65 0 rfl ?_
          refine g_aload_n X dX8_goOn_66 0 rfl ?_
          refine g_iload_n X dX8_goOn_67 3 rfl ?_
          refine g_iload X dX8_goOn_68 4 rfl ?_
          refine g_callOI (rest := [.ref (r (307 + o0))]) X (fun u9 h9 => cp_X8_actsOf l E r N o0 ho0 v8 v11 t12 u9 h9) yy_X8_actsOf yi_X8_actsOf wdM_RX8_68 (oX8 (o := o0) ho0) rfl rfl rfl (Nat.le_of_ble_eq_true rfl) dX8_goOn_70 ⟨by decide, by decide⟩ ⟨rfl, rfl⟩ h (fun v15 t14 h => ?_)
          refine g_callOI (rest := []) X (fun u9 h9 => cp_X8_count l E r N o0 ho0 v15 t14 u9 h9) yy_X8_count yi_X8_count wdM_RX8_72 (oX8 (o := o0) ho0) rfl rfl rfl (Nat.le_of_ble_eq_true rfl) dX8_goOn_73 ⟨by decide, by decide⟩ ⟨rfl, rfl⟩ h (fun v17 t16 h => ?_)
          refine g_istore (lv' := [(5, iv v17), (0, .ref (r (307 + o0))), (1, .ref (r (305 + o1))), (2, iv x2), (3, iv v8), (4, iv v11)]) X dX8_goOn_76 (by decide) rfl ?_
          refine g_iload X dX8_goOn_78 0 rfl ?_
          refine g_iconst X dX8_goOn_80 ?_
          refine g_icmp_eq (tgt := 87) X dX8_goOn_81 (by decide) h (fun h => ?_) (fun h => ?_)
          · refine g_iload_n X dX8_goOn_87 4 rfl ?_
            refine g_bipush X dX8_goOn_88 (by decide) ?_
            refine g_join (J := fun jj => ∀ (t18 : St), jj  t18 = some z → gP p l e rm_f_X8_goOn s m args below meth c E A 6 (MQ below ((gqI E (gW E r shH) z) A) args s mc ms A) (gW E r shH) 125 [(0, .ref (r (307 + o0))), (1, .ref (r (305 + o1))), (2, iv x2)] [] t18) h (fun  t18 h => ?_) (fun J19 hJ19 h => ?_)
            · refine g_iinc (lv' := [(2, iv (x2 + 1)), (0, .ref (r (307 + o0))), (1, .ref (r (305 + o1)))]) X dX8_goOn_125 (k := 2) rfl (by decide) rfl ?_
              refine g_goto (tgt := 7) X dX8_goOn_128 (by decide) ?_
              exact g_sub (lv' := [(0, .ref (r (307 + o0))), (1, .ref (r (305 + o1))), (2, iv (x2 + 1))]) [1, 2, 0] rfl (ih (x2 + 1) t18 h)
            refine g_icmp_ne (tgt := 118) X dX8_goOn_90 (by decide) h (fun h => ?_) (fun h => ?_)
            · refine g_aload_n X dX8_goOn_118 1 rfl ?_
              refine g_iload_n X dX8_goOn_119 4 rfl ?_
              refine g_iload X dX8_goOn_120 5 rfl ?_
              refine g_callOV (rest := []) X (fun u9 h9 => cp_X8_obey l E r N o0 ho0 v8 v11 t16 u9 h9) yy_X8_obey yi_X8_obey wdM_RX8_81 (oX8 (o := o0) ho0) rfl rfl rfl (Nat.le_of_ble_eq_true rfl) dX8_goOn_122 ⟨by decide, by decide⟩ ⟨rfl, rfl⟩ h (fun t20 h => ?_)
              exact g_sub (lv' := [(0, .ref (r (307 + o0))), (1, .ref (r (305 + o1))), (2, iv x2)]) [1, 2, 3] rfl (hJ19 t20 h)
            · refine g_aload_n X dX8_goOn_93 1 rfl ?_
              refine g_aload_n X dX8_goOn_94 1 rfl ?_
              refine g_getR X (fH_X8_19_o (o := o0) ho0) rfl dX8_goOn_95 ?_
              refine g_aload_n X dX8_goOn_98 1 rfl ?_
              refine g_getI X (fH_X8_43_o (o := o0) ho0) rfl dX8_goOn_99 h (fun v21 h => ?_)
              refine g_iconst X dX8_goOn_102 ?_
              refine g_iadd X dX8_goOn_103 ?_
              refine g_aload_n X dX8_goOn_104 2 rfl ?_
              refine g_aload_n X dX8_goOn_105 1 rfl ?_
              refine g_getL X (fH_X8_46_o (o := o0) ho0) rfl dX8_goOn_106 h (fun v22 h => ?_)
              refine g_callOI (rest := [.ref (r (307 + o0))]) X (fun u9 h9 => cp_X1_evaluate l E r N o1 ho1 (v21 + 1) v22 t16 u9 h9) yy_X1_evaluate yi_X1_evaluate wdM_RX8_75 ⟨_, _, oH_304⟩ rfl rfl rfl (Nat.le_of_ble_eq_true rfl) dX8_goOn_109 ⟨by decide, by decide⟩ ⟨rfl, rfl⟩ h (fun v24 t23 h => ?_)
              refine g_putI X (fH_X8_43_ow (o := o0) ho0) rfl dX8_goOn_112 h (fun t25 h => ?_)
              refine g_goto (tgt := 125) X dX8_goOn_115 (by decide) ?_
              exact g_sub (lv' := [(0, .ref (r (307 + o0))), (1, .ref (r (305 + o1))), (2, iv x2)]) [1, 2, 3] rfl (hJ19 t25 h)
          · refine g_iload X dX8_goOn_84 0 rfl ?_
            exact g_iret X h dX8_goOn_86
        refine g_icmp_ne (tgt := 65) X dX8_goOn_53 (by decide) h (fun h => ?_) (fun h => ?_)
        · exact g_sub (lv' := [(0, .ref (r (307 + o0))), (1, .ref (r (305 + o1))), (2, iv x2), (3, iv v8), (4, iv v11)]) [2, 3, 4, 1, 0] rfl (hJ13 t10 h)
        · refine g_aload_n X dX8_goOn_56 2 rfl ?_
          refine g_getI X (fH_X8_50_o (o := o0) ho0) rfl dX8_goOn_57 h (fun v26 h => ?_)
          refine g_if_ne (tgt := 65) X dX8_goOn_60 (by decide) h (fun h => ?_) (fun h => ?_)
          · exact g_sub (lv' := [(0, .ref (r (307 + o0))), (1, .ref (r (305 + o1))), (2, iv x2), (3, iv v8), (4, iv v11)]) [2, 3, 4, 1, 0] rfl (hJ13 t10 h)
          · refine g_iconst X dX8_goOn_63 ?_
            exact g_iret X h dX8_goOn_64
      · exact g_sub (lv' := [(0, .ref (r (307 + o0))), (1, .ref (r (305 + o1)))]) [2, 3] rfl (hK4 t10 h)
set_option maxHeartbeats 4000000 in
set_option maxRecDepth 100000 in
theorem b_f_X8_goOn {p : Program} {l : Launch} {e : Env} {s : State} {m : MethodId} {args : Array Value} {below : List Frame} {meth : Method} {c : Code} {E : cE} {A : Nat → Prop} {r : Nat → Nat} {mc ms : Nat} {z : Int × St} {N : Nat} {o0 : Nat} (ho0 : o0 < 2) {o1 : Nat} (ho1 : o1 < 2) {t : St} (X : gX p s m meth c cX8_goOn 6 (some .int) yX8_goOn args E A) (h : f_X8_goOn N o0 o1 t = some z) : gP p l e rm_f_X8_goOn s m args below meth c E A 6 (MQ below ((gqI E (gW E r shH) z) A) args s mc ms A) (gW E r shH) 0 [(0, .ref (r (307 + o0))), (1, .ref (r (305 + o1)))] [] t := by
  unfold f_X8_goOn at h
  refine g_aload_n X dX8_goOn_0 0 rfl ?_
  refine g_iconst X dX8_goOn_1 ?_
  refine g_putI X (fH_X8_53_ow (o := o0) ho0) rfl dX8_goOn_2 h (fun t1 h => ?_)
  refine g_iconst X dX8_goOn_5 ?_
  refine g_istore_n (lv' := [(2, iv 0), (0, .ref (r (307 + o0))), (1, .ref (r (305 + o1)))]) X dX8_goOn_6 rfl (by decide) rfl ?_
  refine g_sub (lv' := [(0, .ref (r (307 + o0))), (1, .ref (r (305 + o1))), (2, iv 0)]) [1, 2, 0] rfl (t_f_X8_goOn_L7 ho0 ho1 X (fun t27 h => ?_) (fun t30 h => ?_) N 0 t1 h)
  · refine g_aload_n X dX8_goOn_44 0 rfl ?_
    refine g_aload_n X dX8_goOn_45 1 rfl ?_
    refine g_callOI (rest := []) X (fun u9 h9 => cp_X8_dance l E r N o0 ho0 o1 ho1 t27 u9 h9) yy_X8_dance yi_X8_dance wdM_RX8_64 (oX8 (o := o0) ho0) rfl rfl rfl (Nat.le_of_ble_eq_true rfl) dX8_goOn_46 ⟨by decide, by decide⟩ ⟨rfl, rfl⟩ h (fun v29 t28 h => ?_)
    exact g_iret X h dX8_goOn_49
  · refine g_iconst X dX8_goOn_131 ?_
    exact g_iret X h dX8_goOn_132
set_option maxHeartbeats 4000000 in
set_option maxRecDepth 100000 in
theorem cp_X8_goOn (l : Launch) (E : cE) (r : Nat → Nat) (N : Nat) (o0 : Nat) (ho0 : o0 < 2) (o1 : Nat) (ho1 : o1 < 2) (t : St) (z : Int × St) (h : f_X8_goOn N o0 o1 t = some z) : cM l E yX8_goOn cX8_goOn 6 (some .int) rm_f_X8_goOn [.ref (r (307 + o0)), .ref (r (305 + o1))] (gW E r shH t) (gqI E (gW E r shH) z) := by
  refine g_of (w := gW E r shH) (by decide) (Nat.le_of_ble_eq_true rfl) ?_
  intro p e s m below meth c A X
  exact g_sub (lv' := [(0, .ref (r (307 + o0))), (1, .ref (r (305 + o1)))]) [0, 1] rfl (b_f_X8_goOn ho0 ho1 X h)
theorem yy_X8_goOn : cY yX8_goOn cX8_goOn 6 (some .int) 1 := ⟨wdK_X8_goOn, wdZ_RX8, by decide +kernel⟩
theorem yi_X8_goOn : cYi yX8_goOn := ⟨wdN_X8_goOn, wdS_X8_goOn⟩
theorem dX9_forget_0 : decode cX9_forget 0 = .ok (.aload_n 0, 1) := by decide +kernel
theorem dX9_forget_1 : decode cX9_forget 1 = .ok (.iconst (-1), 1) := by decide +kernel
theorem dX9_forget_2 : decode cX9_forget 2 = .ok (.putfield 39, 3) := by decide +kernel
theorem dX9_forget_5 : decode cX9_forget 5 = .ok (.aload_n 0, 1) := by decide +kernel
theorem dX9_forget_6 : decode cX9_forget 6 = .ok (.iconst 0, 1) := by decide +kernel
theorem dX9_forget_7 : decode cX9_forget 7 = .ok (.putfield 58, 3) := by decide +kernel
theorem dX9_forget_10 : decode cX9_forget 10 = .ok (.aload_n 0, 1) := by decide +kernel
theorem dX9_forget_11 : decode cX9_forget 11 = .ok (.iconst 0, 1) := by decide +kernel
theorem dX9_forget_12 : decode cX9_forget 12 = .ok (.putfield 62, 3) := by decide +kernel
theorem dX9_forget_15 : decode cX9_forget 15 = .ok (.return_, 1) := by decide +kernel
abbrev rm_f_X9_forget : Room := { frames := 0, cells := 0, slots := 0, locals := 0 }
def f_X9_forget (N : Nat) (t : St) : Option (St) :=
    lt1 (pI t 310 14 (-1)) fun t1 =>
    boI 0 (lt1 (pI t1 310 16 0) fun t2 =>
    lt1 (pI t2 310 17 0) fun t3 =>
    some t3)
set_option maxHeartbeats 4000000 in
set_option maxRecDepth 100000 in
theorem b_f_X9_forget {p : Program} {l : Launch} {e : Env} {s : State} {m : MethodId} {args : Array Value} {below : List Frame} {meth : Method} {c : Code} {E : cE} {A : Nat → Prop} {r : Nat → Nat} {mc ms : Nat} {z : St} {N : Nat} {t : St} (X : gX p s m meth c cX9_forget 1 none yX9_forget args E A) (h : f_X9_forget N t = some z) : gP p l e rm_f_X9_forget s m args below meth c E A 1 (MQ below ((gqV E (gW E r shH) z) A) args s mc ms A) (gW E r shH) 0 [(0, .ref (r 310))] [] t := by
  unfold f_X9_forget at h
  refine g_aload_n X dX9_forget_0 0 rfl ?_
  refine g_iconst X dX9_forget_1 ?_
  refine g_putI X fH_X9_39_310w rfl dX9_forget_2 h (fun t1 h => ?_)
  refine g_aload_n X dX9_forget_5 0 rfl ?_
  refine g_iconst X dX9_forget_6 ?_
  refine g_putZ X fH_X9_58_310w rfl dX9_forget_7 h (fun t2 h => ?_)
  refine g_aload_n X dX9_forget_10 0 rfl ?_
  refine g_iconst X dX9_forget_11 ?_
  refine g_putI X fH_X9_62_310w rfl dX9_forget_12 h (fun t3 h => ?_)
  exact g_vret X h dX9_forget_15
set_option maxHeartbeats 4000000 in
set_option maxRecDepth 100000 in
theorem cp_X9_forget (l : Launch) (E : cE) (r : Nat → Nat) (N : Nat) (t : St) (z : St) (h : f_X9_forget N t = some z) : cM l E yX9_forget cX9_forget 1 none rm_f_X9_forget [.ref (r 310)] (gW E r shH t) (gqV E (gW E r shH) z) := by
  refine g_of (w := gW E r shH) (by decide) (Nat.le_of_ble_eq_true rfl) ?_
  intro p e s m below meth c A X
  exact g_sub (lv' := [(0, .ref (r 310))]) [0] rfl (b_f_X9_forget X h)
theorem yy_X9_forget : cY yX9_forget cX9_forget 1 none 0 := ⟨wdK_X9_forget, wdZ_RX9, by decide +kernel⟩
theorem yi_X9_forget : cYi yX9_forget := ⟨wdN_X9_forget, wdS_X9_forget⟩
theorem dJ7_fill_fb410_0 : decode cJ7_fill_fb410 0 = .ok (.iconst 0, 1) := by decide +kernel
theorem dJ7_fill_fb410_1 : decode cJ7_fill_fb410 1 = .ok (.istore_n 2, 1) := by decide +kernel
theorem dJ7_fill_fb410_2 : decode cJ7_fill_fb410 2 = .ok (.aload_n 0, 1) := by decide +kernel
theorem dJ7_fill_fb410_3 : decode cJ7_fill_fb410 3 = .ok (.arraylength, 1) := by decide +kernel
theorem dJ7_fill_fb410_4 : decode cJ7_fill_fb410 4 = .ok (.istore_n 3, 1) := by decide +kernel
theorem dJ7_fill_fb410_5 : decode cJ7_fill_fb410 5 = .ok (.iload_n 2, 1) := by decide +kernel
theorem dJ7_fill_fb410_6 : decode cJ7_fill_fb410 6 = .ok (.iload_n 3, 1) := by decide +kernel
theorem dJ7_fill_fb410_7 : decode cJ7_fill_fb410 7 = .ok (.if_icmp .ge 13, 3) := by decide +kernel
theorem dJ7_fill_fb410_10 : decode cJ7_fill_fb410 10 = .ok (.aload_n 0, 1) := by decide +kernel
theorem dJ7_fill_fb410_11 : decode cJ7_fill_fb410 11 = .ok (.iload_n 2, 1) := by decide +kernel
theorem dJ7_fill_fb410_12 : decode cJ7_fill_fb410 12 = .ok (.iload_n 1, 1) := by decide +kernel
theorem dJ7_fill_fb410_13 : decode cJ7_fill_fb410 13 = .ok (.sastore, 1) := by decide +kernel
theorem dJ7_fill_fb410_14 : decode cJ7_fill_fb410 14 = .ok (.iinc 2 1, 3) := by decide +kernel
theorem dJ7_fill_fb410_17 : decode cJ7_fill_fb410 17 = .ok (.goto (-12), 3) := by decide +kernel
theorem dJ7_fill_fb410_20 : decode cJ7_fill_fb410 20 = .ok (.return_, 1) := by decide +kernel
abbrev rm_f_J7_fill_fb410 : Room := { frames := 0, cells := 0, slots := 0, locals := 0 }
def f_J7_fill_fb410_L5 (q0 : Nat) (n0 : Nat) (K5 : (St → Option (St))) (y1 : Int) (y3 : Int) : Nat → Int → St → Option (St)
  | 0, _, _ => none
  | n9 + 1, x2, t4 =>
    cmpI x2 y3 (if x2 < y3 then (ixI x2 n0 (lt1 (pI t4 q0 x2.toNat (b16 y1)) fun t6 =>
    f_J7_fill_fb410_L5 q0 n0 K5 y1 y3 n9 (x2 + 1) t6))
    else (K5 t4))
def f_J7_fill_fb410 (N : Nat) (q0 : Nat) (n0 : Nat) (a1 : Int) (t : St) : Option (St) :=
    f_J7_fill_fb410_L5 q0 n0 (fun (t7 : St) => some t7) a1 ((n0 : Nat) : Int) N 0 t
set_option maxHeartbeats 4000000 in
set_option maxRecDepth 100000 in
theorem t_f_J7_fill_fb410_L5 {p : Program} {l : Launch} {e : Env} {s : State} {m : MethodId} {args : Array Value} {below : List Frame} {meth : Method} {c : Code} {E : cE} {A : Nat → Prop} {r : Nat → Nat} {mc ms : Nat} {z : St} {q0 n0 : Nat} (hq0 : gA shH q0 3 n0) {K5 : (St → Option (St))} {y1 : Int} {y3 : Int} (X : gX p s m meth c cJ7_fill_fb410 4 none yJ7_fill_fb410 args E A) (hK5 : ∀ (t9 : St), K5 t9 = some z → gP p l e rm_f_J7_fill_fb410 s m args below meth c E A 4 (MQ below ((gqV E (gW E r shH) z) A) args s mc ms A) (gW E r shH) 20 [] [] t9) : ∀ (n9 : Nat) (x2 : Int) (t4 : St), f_J7_fill_fb410_L5 q0 n0 K5 y1 y3 n9 x2 t4 = some z → gP p l e rm_f_J7_fill_fb410 s m args below meth c E A 4 (MQ below ((gqV E (gW E r shH) z) A) args s mc ms A) (gW E r shH) 5 [(0, .ref (r q0)), (1, iv y1), (2, iv x2), (3, iv y3)] [] t4 := by
  intro n9
  induction n9 with
  | zero => intro x2 t4 h; cases h
  | succ n9 ih =>
    intro x2 t4 h
    unfold f_J7_fill_fb410_L5 at h
    refine g_iload_n X dJ7_fill_fb410_5 2 rfl ?_
    refine g_iload_n X dJ7_fill_fb410_6 3 rfl ?_
    refine g_icmp_ge (tgt := 20) X dJ7_fill_fb410_7 (by decide) h (fun h => ?_) (fun h => ?_)
    · exact g_sub (lv' := []) [] rfl (hK5 t4 h)
    · refine g_aload_n X dJ7_fill_fb410_10 0 rfl ?_
      refine g_iload_n X dJ7_fill_fb410_11 2 rfl ?_
      refine g_iload_n X dJ7_fill_fb410_12 1 rfl ?_
      refine g_sast X hq0 dJ7_fill_fb410_13 h (fun t6 h => ?_)
      refine g_iinc (lv' := [(2, iv (x2 + 1)), (0, .ref (r q0)), (1, iv y1), (3, iv y3)]) X dJ7_fill_fb410_14 (k := 2) rfl (by decide) rfl ?_
      refine g_goto (tgt := 5) X dJ7_fill_fb410_17 (by decide) ?_
      exact g_sub (lv' := [(0, .ref (r q0)), (1, iv y1), (2, iv (x2 + 1)), (3, iv y3)]) [1, 2, 0, 3] rfl (ih (x2 + 1) t6 h)
set_option maxHeartbeats 4000000 in
set_option maxRecDepth 100000 in
theorem b_f_J7_fill_fb410 {p : Program} {l : Launch} {e : Env} {s : State} {m : MethodId} {args : Array Value} {below : List Frame} {meth : Method} {c : Code} {E : cE} {A : Nat → Prop} {r : Nat → Nat} {mc ms : Nat} {z : St} {N : Nat} {q0 n0 : Nat} (hq0 : gA shH q0 3 n0) {a1 : Int} {t : St} (X : gX p s m meth c cJ7_fill_fb410 4 none yJ7_fill_fb410 args E A) (h : f_J7_fill_fb410 N q0 n0 a1 t = some z) : gP p l e rm_f_J7_fill_fb410 s m args below meth c E A 4 (MQ below ((gqV E (gW E r shH) z) A) args s mc ms A) (gW E r shH) 0 [(0, .ref (r q0)), (1, iv a1)] [] t := by
  unfold f_J7_fill_fb410 at h
  refine g_iconst X dJ7_fill_fb410_0 ?_
  refine g_istore_n (lv' := [(2, iv 0), (0, .ref (r q0)), (1, iv a1)]) X dJ7_fill_fb410_1 rfl (by decide) rfl ?_
  refine g_aload_n X dJ7_fill_fb410_2 1 rfl ?_
  refine g_alen3 X hq0 dJ7_fill_fb410_3 ?_
  refine g_istore_n (lv' := [(3, iv ((n0 : Nat) : Int)), (2, iv 0), (0, .ref (r q0)), (1, iv a1)]) X dJ7_fill_fb410_4 rfl (by decide) rfl ?_
  refine g_sub (lv' := [(0, .ref (r q0)), (1, iv a1), (2, iv 0), (3, iv ((n0 : Nat) : Int))]) [2, 3, 1, 0] rfl (t_f_J7_fill_fb410_L5 hq0 X (fun t7 h => ?_) N 0 t h)
  · exact g_vret X h dJ7_fill_fb410_20
set_option maxHeartbeats 4000000 in
set_option maxRecDepth 100000 in
theorem cp_J7_fill_fb410 (l : Launch) (E : cE) (r : Nat → Nat) (N : Nat) (q0 n0 : Nat) (hq0 : gA shH q0 3 n0) (a1 : Int) (t : St) (z : St) (h : f_J7_fill_fb410 N q0 n0 a1 t = some z) : cM l E yJ7_fill_fb410 cJ7_fill_fb410 4 none rm_f_J7_fill_fb410 [.ref (r q0), iv a1] (gW E r shH t) (gqV E (gW E r shH) z) := by
  refine g_of (w := gW E r shH) (by decide) (Nat.le_of_ble_eq_true rfl) ?_
  intro p e s m below meth c A X
  exact g_sub (lv' := [(0, .ref (r q0)), (1, iv a1)]) [0, 1] rfl (b_f_J7_fill_fb410 hq0 X h)
theorem yy_J7_fill_fb410 : cY yJ7_fill_fb410 cJ7_fill_fb410 4 none 2 := ⟨wdK_J7_fill_fb410, wdZ_RJ7, by decide +kernel⟩
theorem dX9_pack_0 : decode cX9_pack 0 = .ok (.aload_n 0, 1) := by decide +kernel
theorem dX9_pack_1 : decode cX9_pack 1 = .ok (.getfield 33, 3) := by decide +kernel
theorem dX9_pack_4 : decode cX9_pack 4 = .ok (.lconst 0, 1) := by decide +kernel
theorem dX9_pack_5 : decode cX9_pack 5 = .ok (.invokestatic 131, 3) := by decide +kernel
theorem dX9_pack_8 : decode cX9_pack 8 = .ok (.iconst 0, 1) := by decide +kernel
theorem dX9_pack_9 : decode cX9_pack 9 = .ok (.istore_n 3, 1) := by decide +kernel
theorem dX9_pack_10 : decode cX9_pack 10 = .ok (.iload_n 3, 1) := by decide +kernel
theorem dX9_pack_11 : decode cX9_pack 11 = .ok (.iload_n 2, 1) := by decide +kernel
theorem dX9_pack_12 : decode cX9_pack 12 = .ok (.if_icmp .ge 62, 3) := by decide +kernel
theorem dX9_pack_15 : decode cX9_pack 15 = .ok (.iload_n 3, 1) := by decide +kernel
theorem dX9_pack_16 : decode cX9_pack 16 = .ok (.bipush 16, 2) := by decide +kernel
theorem dX9_pack_18 : decode cX9_pack 18 = .ok (.if_icmp .ge 56, 3) := by decide +kernel
theorem dX9_pack_21 : decode cX9_pack 21 = .ok (.iload_n 3, 1) := by decide +kernel
theorem dX9_pack_22 : decode cX9_pack 22 = .ok (.aload_n 1, 1) := by decide +kernel
theorem dX9_pack_23 : decode cX9_pack 23 = .ok (.arraylength, 1) := by decide +kernel
theorem dX9_pack_24 : decode cX9_pack 24 = .ok (.if_icmp .ge 50, 3) := by decide +kernel
theorem dX9_pack_27 : decode cX9_pack 27 = .ok (.aload_n 1, 1) := by decide +kernel
theorem dX9_pack_28 : decode cX9_pack 28 = .ok (.iload_n 3, 1) := by decide +kernel
theorem dX9_pack_29 : decode cX9_pack 29 = .ok (.iaload, 1) := by decide +kernel
theorem dX9_pack_30 : decode cX9_pack 30 = .ok (.bipush 63, 2) := by decide +kernel
theorem dX9_pack_32 : decode cX9_pack 32 = .ok (.iand, 1) := by decide +kernel
theorem dX9_pack_33 : decode cX9_pack 33 = .ok (.aload_n 1, 1) := by decide +kernel
theorem dX9_pack_34 : decode cX9_pack 34 = .ok (.iload_n 3, 1) := by decide +kernel
theorem dX9_pack_35 : decode cX9_pack 35 = .ok (.iaload, 1) := by decide +kernel
theorem dX9_pack_36 : decode cX9_pack 36 = .ok (.iconst 2, 1) := by decide +kernel
theorem dX9_pack_37 : decode cX9_pack 37 = .ok (.ishr, 1) := by decide +kernel
theorem dX9_pack_38 : decode cX9_pack 38 = .ok (.sipush 960, 3) := by decide +kernel
theorem dX9_pack_41 : decode cX9_pack 41 = .ok (.iand, 1) := by decide +kernel
theorem dX9_pack_42 : decode cX9_pack 42 = .ok (.ior, 1) := by decide +kernel
theorem dX9_pack_43 : decode cX9_pack 43 = .ok (.i2l, 1) := by decide +kernel
theorem dX9_pack_44 : decode cX9_pack 44 = .ok (.lstore 4, 2) := by decide +kernel
theorem dX9_pack_46 : decode cX9_pack 46 = .ok (.aload_n 0, 1) := by decide +kernel
theorem dX9_pack_47 : decode cX9_pack 47 = .ok (.getfield 33, 3) := by decide +kernel
theorem dX9_pack_50 : decode cX9_pack 50 = .ok (.iload_n 3, 1) := by decide +kernel
theorem dX9_pack_51 : decode cX9_pack 51 = .ok (.bipush 6, 2) := by decide +kernel
theorem dX9_pack_53 : decode cX9_pack 53 = .ok (.idiv, 1) := by decide +kernel
theorem dX9_pack_54 : decode cX9_pack 54 = .ok (.dup2, 1) := by decide +kernel
theorem dX9_pack_55 : decode cX9_pack 55 = .ok (.laload, 1) := by decide +kernel
theorem dX9_pack_56 : decode cX9_pack 56 = .ok (.lload 4, 2) := by decide +kernel
theorem dX9_pack_58 : decode cX9_pack 58 = .ok (.bipush 10, 2) := by decide +kernel
theorem dX9_pack_60 : decode cX9_pack 60 = .ok (.iload_n 3, 1) := by decide +kernel
theorem dX9_pack_61 : decode cX9_pack 61 = .ok (.bipush 6, 2) := by decide +kernel
theorem dX9_pack_63 : decode cX9_pack 63 = .ok (.irem, 1) := by decide +kernel
theorem dX9_pack_64 : decode cX9_pack 64 = .ok (.imul, 1) := by decide +kernel
theorem dX9_pack_65 : decode cX9_pack 65 = .ok (.lshl, 1) := by decide +kernel
theorem dX9_pack_66 : decode cX9_pack 66 = .ok (.lor, 1) := by decide +kernel
theorem dX9_pack_67 : decode cX9_pack 67 = .ok (.lastore, 1) := by decide +kernel
theorem dX9_pack_68 : decode cX9_pack 68 = .ok (.iinc 3 1, 3) := by decide +kernel
theorem dX9_pack_71 : decode cX9_pack 71 = .ok (.goto (-61), 3) := by decide +kernel
theorem dX9_pack_74 : decode cX9_pack 74 = .ok (.return_, 1) := by decide +kernel
abbrev rm_f_X9_pack : Room := { frames := 1, cells := 0, slots := 0, locals := 24 }
def f_X9_pack_L10 (q0 : Nat) (n0 : Nat) (K5 : (St → Option (St))) (y2 : Int) : Nat → Int → St → Option (St)
  | 0, _, _ => none
  | n9 + 1, x3, t4 =>
    cmpI x3 y2 (if x3 < y2 then (cmpI x3 16 (if x3 < 16 then (cmpI x3 ((n0 : Nat) : Int) (if x3 < ((n0 : Nat) : Int) then (ixI x3 n0 (lt1 (t4.1 q0 x3.toNat) fun v6 =>
    ixI x3 n0 (lt1 (t4.1 q0 x3.toNat) fun v7 =>
    rnI v7 (
    rnI (iorZ (v6 % 64) (iandZ (v7 / 4) 960)) (
    dvI x3 6 (
    ixI (x3 / 6) 3 (lt1 (t4.2 436 (x3 / 6).toNat) fun v8 =>
    dvI x3 6 (
    ixI (x3 / 6) 3 (lt1 (pL t4 436 (x3 / 6).toNat (v8 ||| (shlL (Int64.ofInt (iorZ (v6 % 64) (iandZ (v7 / 4) 960))) (10 * (x3 % 6))))) fun t9 =>
    f_X9_pack_L10 q0 n0 K5 y2 n9 (x3 + 1) t9)))))))))
    else (K5 t4)))
    else (K5 t4)))
    else (K5 t4))
def f_X9_pack (N : Nat) (q0 : Nat) (n0 : Nat) (a1 : Int) (t : St) : Option (St) :=
    bdV (f_J7_fill_d0a16 N 436 3 (0 : Int64) t) fun t1 =>
    f_X9_pack_L10 q0 n0 (fun (t10 : St) => some t10) a1 N 0 t1
set_option maxHeartbeats 4000000 in
set_option maxRecDepth 100000 in
theorem t_f_X9_pack_L10 {p : Program} {l : Launch} {e : Env} {s : State} {m : MethodId} {args : Array Value} {below : List Frame} {meth : Method} {c : Code} {E : cE} {A : Nat → Prop} {r : Nat → Nat} {mc ms : Nat} {z : St} {q0 n0 : Nat} (hq0 : gA shH q0 1 n0) {K5 : (St → Option (St))} {y2 : Int} (X : gX p s m meth c cX9_pack 6 none yX9_pack args E A) (hK5 : ∀ (t9 : St), K5 t9 = some z → gP p l e rm_f_X9_pack s m args below meth c E A 6 (MQ below ((gqV E (gW E r shH) z) A) args s mc ms A) (gW E r shH) 74 [] [] t9) : ∀ (n9 : Nat) (x3 : Int) (t4 : St), f_X9_pack_L10 q0 n0 K5 y2 n9 x3 t4 = some z → gP p l e rm_f_X9_pack s m args below meth c E A 6 (MQ below ((gqV E (gW E r shH) z) A) args s mc ms A) (gW E r shH) 10 [(0, .ref (r 310)), (1, .ref (r q0)), (2, iv y2), (3, iv x3)] [] t4 := by
  intro n9
  induction n9 with
  | zero => intro x3 t4 h; cases h
  | succ n9 ih =>
    intro x3 t4 h
    unfold f_X9_pack_L10 at h
    refine g_iload_n X dX9_pack_10 3 rfl ?_
    refine g_iload_n X dX9_pack_11 2 rfl ?_
    refine g_icmp_ge (tgt := 74) X dX9_pack_12 (by decide) h (fun h => ?_) (fun h => ?_)
    · exact g_sub (lv' := []) [] rfl (hK5 t4 h)
    · refine g_iload_n X dX9_pack_15 3 rfl ?_
      refine g_bipush X dX9_pack_16 (by decide) ?_
      refine g_icmp_ge (tgt := 74) X dX9_pack_18 (by decide) h (fun h => ?_) (fun h => ?_)
      · exact g_sub (lv' := []) [] rfl (hK5 t4 h)
      · refine g_iload_n X dX9_pack_21 3 rfl ?_
        refine g_aload_n X dX9_pack_22 1 rfl ?_
        refine g_alen1 X hq0 dX9_pack_23 ?_
        refine g_icmp_ge (tgt := 74) X dX9_pack_24 (by decide) h (fun h => ?_) (fun h => ?_)
        · exact g_sub (lv' := []) [] rfl (hK5 t4 h)
        · refine g_aload_n X dX9_pack_27 1 rfl ?_
          refine g_iload_n X dX9_pack_28 3 rfl ?_
          refine g_iald X hq0 dX9_pack_29 h (fun v6 h => ?_)
          refine g_bipush X dX9_pack_30 (by decide) ?_
          refine g_mask X 6 (by decide) (M := 64) (by decide) (by decide) dX9_pack_32 ?_
          refine g_aload_n X dX9_pack_33 1 rfl ?_
          refine g_iload_n X dX9_pack_34 3 rfl ?_
          refine g_iald X hq0 dX9_pack_35 h (fun v7 h => ?_)
          refine g_iconst X dX9_pack_36 ?_
          refine g_shr X 2 (by decide) (M := 4) (by decide) (by decide) dX9_pack_37 h (fun h => ?_)
          refine g_sipush X dX9_pack_38 (by decide) ?_
          refine g_iand X dX9_pack_41 ?_
          refine g_ior X dX9_pack_42 ?_
          refine g_i2l X dX9_pack_43 h (fun h => ?_)
          refine g_lstore (lv' := [(4, .long (Int64.ofInt (iorZ (v6 % 64) (iandZ (v7 / 4) 960)))), (0, .ref (r 310)), (1, .ref (r q0)), (2, iv y2), (3, iv x3)]) X dX9_pack_44 (by decide) rfl ?_
          refine g_aload_n X dX9_pack_46 1 rfl ?_
          refine g_getR X fH_X9_33_310 rfl dX9_pack_47 ?_
          refine g_iload_n X dX9_pack_50 4 rfl ?_
          refine g_bipush X dX9_pack_51 (by decide) ?_
          refine g_idiv X dX9_pack_53 h (fun h => ?_)
          refine g_dup2 X rfl rfl dX9_pack_54 ?_
          refine g_lald X aH_436 dX9_pack_55 h (fun v8 h => ?_)
          refine g_lload X dX9_pack_56 0 rfl ?_
          refine g_bipush X dX9_pack_58 (by decide) ?_
          refine g_iload_n X dX9_pack_60 4 rfl ?_
          refine g_bipush X dX9_pack_61 (by decide) ?_
          refine g_irem X dX9_pack_63 h (fun h => ?_)
          refine g_imul X dX9_pack_64 ?_
          refine g_lshl X dX9_pack_65 ?_
          refine g_lor X dX9_pack_66 ?_
          refine g_last X aH_436 dX9_pack_67 h (fun t9 h => ?_)
          refine g_iinc (lv' := [(3, iv (x3 + 1)), (4, .long (Int64.ofInt (iorZ (v6 % 64) (iandZ (v7 / 4) 960)))), (0, .ref (r 310)), (1, .ref (r q0)), (2, iv y2)]) X dX9_pack_68 (k := 4) rfl (by decide) rfl ?_
          refine g_goto (tgt := 10) X dX9_pack_71 (by decide) ?_
          exact g_sub (lv' := [(0, .ref (r 310)), (1, .ref (r q0)), (2, iv y2), (3, iv (x3 + 1))]) [2, 3, 4, 0] rfl (ih (x3 + 1) t9 h)
set_option maxHeartbeats 4000000 in
set_option maxRecDepth 100000 in
theorem b_f_X9_pack {p : Program} {l : Launch} {e : Env} {s : State} {m : MethodId} {args : Array Value} {below : List Frame} {meth : Method} {c : Code} {E : cE} {A : Nat → Prop} {r : Nat → Nat} {mc ms : Nat} {z : St} {N : Nat} {q0 n0 : Nat} (hq0 : gA shH q0 1 n0) {a1 : Int} {t : St} (X : gX p s m meth c cX9_pack 6 none yX9_pack args E A) (h : f_X9_pack N q0 n0 a1 t = some z) : gP p l e rm_f_X9_pack s m args below meth c E A 6 (MQ below ((gqV E (gW E r shH) z) A) args s mc ms A) (gW E r shH) 0 [(0, .ref (r 310)), (1, .ref (r q0)), (2, iv a1)] [] t := by
  unfold f_X9_pack at h
  refine g_aload_n X dX9_pack_0 0 rfl ?_
  refine g_getR X fH_X9_33_310 rfl dX9_pack_1 ?_
  refine g_lconst (v := 0) X dX9_pack_4 (by decide) ?_
  refine g_callsV (rest := []) X (fun u9 h9 => cp_J7_fill_d0a16 l E r N 436 3 aH_436 (0 : Int64) t u9 h9) yy_J7_fill_d0a16 wdT_J7_fill_d0a16 wdM_RX9_131 rfl rfl (Nat.le_of_ble_eq_true rfl) dX9_pack_5 ⟨by decide, by decide⟩ ⟨rfl, rfl⟩ h (fun t1 h => ?_)
  refine g_iconst X dX9_pack_8 ?_
  refine g_istore_n (lv' := [(3, iv 0), (0, .ref (r 310)), (1, .ref (r q0)), (2, iv a1)]) X dX9_pack_9 rfl (by decide) rfl ?_
  refine g_sub (lv' := [(0, .ref (r 310)), (1, .ref (r q0)), (2, iv a1), (3, iv 0)]) [1, 2, 3, 0] rfl (t_f_X9_pack_L10 hq0 X (fun t10 h => ?_) N 0 t1 h)
  · exact g_vret X h dX9_pack_74
set_option maxHeartbeats 4000000 in
set_option maxRecDepth 100000 in
theorem cp_X9_pack (l : Launch) (E : cE) (r : Nat → Nat) (N : Nat) (q0 n0 : Nat) (hq0 : gA shH q0 1 n0) (a1 : Int) (t : St) (z : St) (h : f_X9_pack N q0 n0 a1 t = some z) : cM l E yX9_pack cX9_pack 6 none rm_f_X9_pack [.ref (r 310), .ref (r q0), iv a1] (gW E r shH t) (gqV E (gW E r shH) z) := by
  refine g_of (w := gW E r shH) (by decide) (Nat.le_of_ble_eq_true rfl) ?_
  intro p e s m below meth c A X
  exact g_sub (lv' := [(0, .ref (r 310)), (1, .ref (r q0)), (2, iv a1)]) [0, 1, 2] rfl (b_f_X9_pack hq0 X h)
theorem yy_X9_pack : cY yX9_pack cX9_pack 6 none 2 := ⟨wdK_X9_pack, wdZ_RX9, by decide +kernel⟩
theorem yi_X9_pack : cYi yX9_pack := ⟨wdN_X9_pack, wdS_X9_pack⟩
theorem dX9_placeOfKey_0 : decode cX9_placeOfKey 0 = .ok (.aload_n 0, 1) := by decide +kernel
theorem dX9_placeOfKey_1 : decode cX9_placeOfKey 1 = .ok (.getfield 33, 3) := by decide +kernel
theorem dX9_placeOfKey_4 : decode cX9_placeOfKey 4 = .ok (.iconst 0, 1) := by decide +kernel
theorem dX9_placeOfKey_5 : decode cX9_placeOfKey 5 = .ok (.laload, 1) := by decide +kernel
theorem dX9_placeOfKey_6 : decode cX9_placeOfKey 6 = .ok (.ldc2_w 134, 3) := by decide +kernel
theorem dX9_placeOfKey_9 : decode cX9_placeOfKey 9 = .ok (.lmul, 1) := by decide +kernel
theorem dX9_placeOfKey_10 : decode cX9_placeOfKey 10 = .ok (.aload_n 0, 1) := by decide +kernel
theorem dX9_placeOfKey_11 : decode cX9_placeOfKey 11 = .ok (.getfield 33, 3) := by decide +kernel
theorem dX9_placeOfKey_14 : decode cX9_placeOfKey 14 = .ok (.iconst 1, 1) := by decide +kernel
theorem dX9_placeOfKey_15 : decode cX9_placeOfKey 15 = .ok (.laload, 1) := by decide +kernel
theorem dX9_placeOfKey_16 : decode cX9_placeOfKey 16 = .ok (.ladd, 1) := by decide +kernel
theorem dX9_placeOfKey_17 : decode cX9_placeOfKey 17 = .ok (.ldc2_w 134, 3) := by decide +kernel
theorem dX9_placeOfKey_20 : decode cX9_placeOfKey 20 = .ok (.lmul, 1) := by decide +kernel
theorem dX9_placeOfKey_21 : decode cX9_placeOfKey 21 = .ok (.aload_n 0, 1) := by decide +kernel
theorem dX9_placeOfKey_22 : decode cX9_placeOfKey 22 = .ok (.getfield 33, 3) := by decide +kernel
theorem dX9_placeOfKey_25 : decode cX9_placeOfKey 25 = .ok (.iconst 2, 1) := by decide +kernel
theorem dX9_placeOfKey_26 : decode cX9_placeOfKey 26 = .ok (.laload, 1) := by decide +kernel
theorem dX9_placeOfKey_27 : decode cX9_placeOfKey 27 = .ok (.ladd, 1) := by decide +kernel
theorem dX9_placeOfKey_28 : decode cX9_placeOfKey 28 = .ok (.lstore_n 1, 1) := by decide +kernel
theorem dX9_placeOfKey_29 : decode cX9_placeOfKey 29 = .ok (.lload_n 1, 1) := by decide +kernel
theorem dX9_placeOfKey_30 : decode cX9_placeOfKey 30 = .ok (.lload_n 1, 1) := by decide +kernel
theorem dX9_placeOfKey_31 : decode cX9_placeOfKey 31 = .ok (.bipush 29, 2) := by decide +kernel
theorem dX9_placeOfKey_33 : decode cX9_placeOfKey 33 = .ok (.lushr, 1) := by decide +kernel
theorem dX9_placeOfKey_34 : decode cX9_placeOfKey 34 = .ok (.lxor, 1) := by decide +kernel
theorem dX9_placeOfKey_35 : decode cX9_placeOfKey 35 = .ok (.lstore_n 1, 1) := by decide +kernel
theorem dX9_placeOfKey_36 : decode cX9_placeOfKey 36 = .ok (.lload_n 1, 1) := by decide +kernel
theorem dX9_placeOfKey_37 : decode cX9_placeOfKey 37 = .ok (.ldc2_w 136, 3) := by decide +kernel
theorem dX9_placeOfKey_40 : decode cX9_placeOfKey 40 = .ok (.lmul, 1) := by decide +kernel
theorem dX9_placeOfKey_41 : decode cX9_placeOfKey 41 = .ok (.bipush 52, 2) := by decide +kernel
theorem dX9_placeOfKey_43 : decode cX9_placeOfKey 43 = .ok (.lushr, 1) := by decide +kernel
theorem dX9_placeOfKey_44 : decode cX9_placeOfKey 44 = .ok (.l2i, 1) := by decide +kernel
theorem dX9_placeOfKey_45 : decode cX9_placeOfKey 45 = .ok (.istore_n 3, 1) := by decide +kernel
theorem dX9_placeOfKey_46 : decode cX9_placeOfKey 46 = .ok (.iconst 0, 1) := by decide +kernel
theorem dX9_placeOfKey_47 : decode cX9_placeOfKey 47 = .ok (.istore 4, 2) := by decide +kernel
theorem dX9_placeOfKey_49 : decode cX9_placeOfKey 49 = .ok (.iload 4, 2) := by decide +kernel
theorem dX9_placeOfKey_51 : decode cX9_placeOfKey 51 = .ok (.sipush 4096, 3) := by decide +kernel
theorem dX9_placeOfKey_54 : decode cX9_placeOfKey 54 = .ok (.if_icmp .ge 99, 3) := by decide +kernel
theorem dX9_placeOfKey_57 : decode cX9_placeOfKey 57 = .ok (.aload_n 0, 1) := by decide +kernel
theorem dX9_placeOfKey_58 : decode cX9_placeOfKey 58 = .ok (.getfield 15, 3) := by decide +kernel
theorem dX9_placeOfKey_61 : decode cX9_placeOfKey 61 = .ok (.iload_n 3, 1) := by decide +kernel
theorem dX9_placeOfKey_62 : decode cX9_placeOfKey 62 = .ok (.saload, 1) := by decide +kernel
theorem dX9_placeOfKey_63 : decode cX9_placeOfKey 63 = .ok (.ifCond .eq 90, 3) := by decide +kernel
theorem dX9_placeOfKey_66 : decode cX9_placeOfKey 66 = .ok (.aload_n 0, 1) := by decide +kernel
theorem dX9_placeOfKey_67 : decode cX9_placeOfKey 67 = .ok (.getfield 15, 3) := by decide +kernel
theorem dX9_placeOfKey_70 : decode cX9_placeOfKey 70 = .ok (.iload_n 3, 1) := by decide +kernel
theorem dX9_placeOfKey_71 : decode cX9_placeOfKey 71 = .ok (.saload, 1) := by decide +kernel
theorem dX9_placeOfKey_72 : decode cX9_placeOfKey 72 = .ok (.iconst 1, 1) := by decide +kernel
theorem dX9_placeOfKey_73 : decode cX9_placeOfKey 73 = .ok (.isub, 1) := by decide +kernel
theorem dX9_placeOfKey_74 : decode cX9_placeOfKey 74 = .ok (.istore 5, 2) := by decide +kernel
theorem dX9_placeOfKey_76 : decode cX9_placeOfKey 76 = .ok (.aload_n 0, 1) := by decide +kernel
theorem dX9_placeOfKey_77 : decode cX9_placeOfKey 77 = .ok (.getfield 11, 3) := by decide +kernel
theorem dX9_placeOfKey_80 : decode cX9_placeOfKey 80 = .ok (.iconst 3, 1) := by decide +kernel
theorem dX9_placeOfKey_81 : decode cX9_placeOfKey 81 = .ok (.iload 5, 2) := by decide +kernel
theorem dX9_placeOfKey_83 : decode cX9_placeOfKey 83 = .ok (.imul, 1) := by decide +kernel
theorem dX9_placeOfKey_84 : decode cX9_placeOfKey 84 = .ok (.laload, 1) := by decide +kernel
theorem dX9_placeOfKey_85 : decode cX9_placeOfKey 85 = .ok (.aload_n 0, 1) := by decide +kernel
theorem dX9_placeOfKey_86 : decode cX9_placeOfKey 86 = .ok (.getfield 33, 3) := by decide +kernel
theorem dX9_placeOfKey_89 : decode cX9_placeOfKey 89 = .ok (.iconst 0, 1) := by decide +kernel
theorem dX9_placeOfKey_90 : decode cX9_placeOfKey 90 = .ok (.laload, 1) := by decide +kernel
theorem dX9_placeOfKey_91 : decode cX9_placeOfKey 91 = .ok (.lcmp, 1) := by decide +kernel
theorem dX9_placeOfKey_92 : decode cX9_placeOfKey 92 = .ok (.ifCond .ne 47, 3) := by decide +kernel
theorem dX9_placeOfKey_95 : decode cX9_placeOfKey 95 = .ok (.aload_n 0, 1) := by decide +kernel
theorem dX9_placeOfKey_96 : decode cX9_placeOfKey 96 = .ok (.getfield 11, 3) := by decide +kernel
theorem dX9_placeOfKey_99 : decode cX9_placeOfKey 99 = .ok (.iconst 3, 1) := by decide +kernel
theorem dX9_placeOfKey_100 : decode cX9_placeOfKey 100 = .ok (.iload 5, 2) := by decide +kernel
theorem dX9_placeOfKey_102 : decode cX9_placeOfKey 102 = .ok (.imul, 1) := by decide +kernel
theorem dX9_placeOfKey_103 : decode cX9_placeOfKey 103 = .ok (.iconst 1, 1) := by decide +kernel
theorem dX9_placeOfKey_104 : decode cX9_placeOfKey 104 = .ok (.iadd, 1) := by decide +kernel
theorem dX9_placeOfKey_105 : decode cX9_placeOfKey 105 = .ok (.laload, 1) := by decide +kernel
theorem dX9_placeOfKey_106 : decode cX9_placeOfKey 106 = .ok (.aload_n 0, 1) := by decide +kernel
theorem dX9_placeOfKey_107 : decode cX9_placeOfKey 107 = .ok (.getfield 33, 3) := by decide +kernel
theorem dX9_placeOfKey_110 : decode cX9_placeOfKey 110 = .ok (.iconst 1, 1) := by decide +kernel
theorem dX9_placeOfKey_111 : decode cX9_placeOfKey 111 = .ok (.laload, 1) := by decide +kernel
theorem dX9_placeOfKey_112 : decode cX9_placeOfKey 112 = .ok (.lcmp, 1) := by decide +kernel
theorem dX9_placeOfKey_113 : decode cX9_placeOfKey 113 = .ok (.ifCond .ne 26, 3) := by decide +kernel
theorem dX9_placeOfKey_116 : decode cX9_placeOfKey 116 = .ok (.aload_n 0, 1) := by decide +kernel
theorem dX9_placeOfKey_117 : decode cX9_placeOfKey 117 = .ok (.getfield 11, 3) := by decide +kernel
theorem dX9_placeOfKey_120 : decode cX9_placeOfKey 120 = .ok (.iconst 3, 1) := by decide +kernel
theorem dX9_placeOfKey_121 : decode cX9_placeOfKey 121 = .ok (.iload 5, 2) := by decide +kernel
theorem dX9_placeOfKey_123 : decode cX9_placeOfKey 123 = .ok (.imul, 1) := by decide +kernel
theorem dX9_placeOfKey_124 : decode cX9_placeOfKey 124 = .ok (.iconst 2, 1) := by decide +kernel
theorem dX9_placeOfKey_125 : decode cX9_placeOfKey 125 = .ok (.iadd, 1) := by decide +kernel
theorem dX9_placeOfKey_126 : decode cX9_placeOfKey 126 = .ok (.laload, 1) := by decide +kernel
theorem dX9_placeOfKey_127 : decode cX9_placeOfKey 127 = .ok (.aload_n 0, 1) := by decide +kernel
theorem dX9_placeOfKey_128 : decode cX9_placeOfKey 128 = .ok (.getfield 33, 3) := by decide +kernel
theorem dX9_placeOfKey_131 : decode cX9_placeOfKey 131 = .ok (.iconst 2, 1) := by decide +kernel
theorem dX9_placeOfKey_132 : decode cX9_placeOfKey 132 = .ok (.laload, 1) := by decide +kernel
theorem dX9_placeOfKey_133 : decode cX9_placeOfKey 133 = .ok (.lcmp, 1) := by decide +kernel
theorem dX9_placeOfKey_134 : decode cX9_placeOfKey 134 = .ok (.ifCond .ne 5, 3) := by decide +kernel
theorem dX9_placeOfKey_137 : decode cX9_placeOfKey 137 = .ok (.iload_n 3, 1) := by decide +kernel
theorem dX9_placeOfKey_138 : decode cX9_placeOfKey 138 = .ok (.ireturn, 1) := by decide +kernel
theorem dX9_placeOfKey_139 : decode cX9_placeOfKey 139 = .ok (.iload_n 3, 1) := by decide +kernel
theorem dX9_placeOfKey_140 : decode cX9_placeOfKey 140 = .ok (.iconst 1, 1) := by decide +kernel
theorem dX9_placeOfKey_141 : decode cX9_placeOfKey 141 = .ok (.iadd, 1) := by decide +kernel
theorem dX9_placeOfKey_142 : decode cX9_placeOfKey 142 = .ok (.sipush 4095, 3) := by decide +kernel
theorem dX9_placeOfKey_145 : decode cX9_placeOfKey 145 = .ok (.iand, 1) := by decide +kernel
theorem dX9_placeOfKey_146 : decode cX9_placeOfKey 146 = .ok (.istore_n 3, 1) := by decide +kernel
theorem dX9_placeOfKey_147 : decode cX9_placeOfKey 147 = .ok (.iinc 4 1, 3) := by decide +kernel
theorem dX9_placeOfKey_150 : decode cX9_placeOfKey 150 = .ok (.goto (-101), 3) := by decide +kernel
theorem dX9_placeOfKey_153 : decode cX9_placeOfKey 153 = .ok (.iload_n 3, 1) := by decide +kernel
theorem dX9_placeOfKey_154 : decode cX9_placeOfKey 154 = .ok (.ireturn, 1) := by decide +kernel
abbrev rm_f_X9_placeOfKey : Room := { frames := 0, cells := 0, slots := 0, locals := 0 }
def f_X9_placeOfKey_L49 (K7 : (Int → St → Option (Int × St))) : Nat → Int → Int → St → Option (Int × St)
  | 0, _, _, _ => none
  | n9 + 1, x4, x5, t6 =>
    cmpI x5 4096 (if x5 < 4096 then (ixI x4 4096 (lt1 (t6.1 431 x4.toNat) fun v8 =>
    cmpI v8 0 (if v8 = 0 then (K7 x4 t6)
    else (ixI x4 4096 (lt1 (t6.1 431 x4.toNat) fun v9 =>
    ixI (3 * (v9 - 1)) 6000 (lt1 (t6.2 430 (3 * (v9 - 1)).toNat) fun v10 =>
    ixI 0 3 (lt1 (t6.2 436 (0 : Int).toNat) fun v11 =>
    jn1 (fun (t12 : St) => f_X9_placeOfKey_L49 K7 n9 ((x4 + 1) % 4096) (x5 + 1) t12) fun J13 =>
    (if v10 = v11 then (ixI ((3 * (v9 - 1)) + 1) 6000 (lt1 (t6.2 430 ((3 * (v9 - 1)) + 1).toNat) fun v14 =>
    ixI 1 3 (lt1 (t6.2 436 (1 : Int).toNat) fun v15 =>
    (if v14 = v15 then (ixI ((3 * (v9 - 1)) + 2) 6000 (lt1 (t6.2 430 ((3 * (v9 - 1)) + 2).toNat) fun v16 =>
    ixI 2 3 (lt1 (t6.2 436 (2 : Int).toNat) fun v17 =>
    (if v16 = v17 then (some (x4, t6))
    else (J13 t6)))))
    else (J13 t6)))))
    else (J13 t6)))))))))
    else (K7 x4 t6))
def f_X9_placeOfKey (N : Nat) (t : St) : Option (Int × St) :=
    ixI 0 3 (lt1 (t.2 436 (0 : Int).toNat) fun v1 =>
    ixI 1 3 (lt1 (t.2 436 (1 : Int).toNat) fun v2 =>
    ixI 2 3 (lt1 (t.2 436 (2 : Int).toNat) fun v3 =>
    f_X9_placeOfKey_L49 (fun (k18 : Int) (t19 : St) => some (k18, t19)) N ((ushrL ((((((v1 * (31 : Int64)) + v2) * (31 : Int64)) + v3) ^^^ (ushrL ((((v1 * (31 : Int64)) + v2) * (31 : Int64)) + v3) 29)) * (-7046029254386353131 : Int64)) 52).toInt) 0 t)))
set_option maxHeartbeats 4000000 in
set_option maxRecDepth 100000 in
theorem t_f_X9_placeOfKey_L49 {p : Program} {l : Launch} {e : Env} {s : State} {m : MethodId} {args : Array Value} {below : List Frame} {meth : Method} {c : Code} {E : cE} {A : Nat → Prop} {r : Nat → Nat} {mc ms : Nat} {z : Int × St} {K7 : (Int → St → Option (Int × St))} (X : gX p s m meth c cX9_placeOfKey 6 (some .int) yX9_placeOfKey args E A) (hK7 : ∀ (q3 : Int) (t9 : St), K7 q3 t9 = some z → gP p l e rm_f_X9_placeOfKey s m args below meth c E A 6 (MQ below ((gqI E (gW E r shH) z) A) args s mc ms A) (gW E r shH) 153 [(3, iv q3)] [] t9) : ∀ (n9 : Nat) (x4 : Int) (x5 : Int) (t6 : St), f_X9_placeOfKey_L49 K7 n9 x4 x5 t6 = some z → gP p l e rm_f_X9_placeOfKey s m args below meth c E A 6 (MQ below ((gqI E (gW E r shH) z) A) args s mc ms A) (gW E r shH) 49 [(0, .ref (r 310)), (3, iv x4), (4, iv x5)] [] t6 := by
  intro n9
  induction n9 with
  | zero => intro x4 x5 t6 h; cases h
  | succ n9 ih =>
    intro x4 x5 t6 h
    unfold f_X9_placeOfKey_L49 at h
    refine g_iload X dX9_placeOfKey_49 2 rfl ?_
    refine g_sipush X dX9_placeOfKey_51 (by decide) ?_
    refine g_icmp_ge (tgt := 153) X dX9_placeOfKey_54 (by decide) h (fun h => ?_) (fun h => ?_)
    · exact g_sub (lv' := [(3, iv x4)]) [1] rfl (hK7 x4 t6 h)
    · refine g_aload_n X dX9_placeOfKey_57 0 rfl ?_
      refine g_getR X fH_X9_15_310 rfl dX9_placeOfKey_58 ?_
      refine g_iload_n X dX9_placeOfKey_61 1 rfl ?_
      refine g_sald X aH_431 dX9_placeOfKey_62 h (fun v8 h => ?_)
      refine g_if_eq (tgt := 153) X dX9_placeOfKey_63 (by decide) h (fun h => ?_) (fun h => ?_)
      · exact g_sub (lv' := [(3, iv x4)]) [1] rfl (hK7 x4 t6 h)
      · refine g_aload_n X dX9_placeOfKey_66 0 rfl ?_
        refine g_getR X fH_X9_15_310 rfl dX9_placeOfKey_67 ?_
        refine g_iload_n X dX9_placeOfKey_70 1 rfl ?_
        refine g_sald X aH_431 dX9_placeOfKey_71 h (fun v9 h => ?_)
        refine g_iconst X dX9_placeOfKey_72 ?_
        refine g_isub X dX9_placeOfKey_73 ?_
        refine g_istore (lv' := [(5, iv (v9 - 1)), (0, .ref (r 310)), (3, iv x4), (4, iv x5)]) X dX9_placeOfKey_74 (by decide) rfl ?_
        refine g_aload_n X dX9_placeOfKey_76 1 rfl ?_
        refine g_getR X fH_X9_11_310 rfl dX9_placeOfKey_77 ?_
        refine g_iconst X dX9_placeOfKey_80 ?_
        refine g_iload X dX9_placeOfKey_81 0 rfl ?_
        refine g_imul X dX9_placeOfKey_83 ?_
        refine g_lald X aH_430 dX9_placeOfKey_84 h (fun v10 h => ?_)
        refine g_aload_n X dX9_placeOfKey_85 1 rfl ?_
        refine g_getR X fH_X9_33_310 rfl dX9_placeOfKey_86 ?_
        refine g_iconst X dX9_placeOfKey_89 ?_
        refine g_lald X aH_436 dX9_placeOfKey_90 h (fun v11 h => ?_)
        refine g_join (J := fun jj => ∀ (t12 : St), jj  t12 = some z → gP p l e rm_f_X9_placeOfKey s m args below meth c E A 6 (MQ below ((gqI E (gW E r shH) z) A) args s mc ms A) (gW E r shH) 139 [(0, .ref (r 310)), (3, iv x4), (4, iv x5)] [] t12) h (fun  t12 h => ?_) (fun J13 hJ13 h => ?_)
        · refine g_iload_n X dX9_placeOfKey_139 1 rfl ?_
          refine g_iconst X dX9_placeOfKey_140 ?_
          refine g_iadd X dX9_placeOfKey_141 ?_
          refine g_sipush X dX9_placeOfKey_142 (by decide) ?_
          refine g_mask X 12 (by decide) (M := 4096) (by decide) (by decide) dX9_placeOfKey_145 ?_
          refine g_istore_n (lv' := [(3, iv ((x4 + 1) % 4096)), (0, .ref (r 310)), (4, iv x5)]) X dX9_placeOfKey_146 rfl (by decide) rfl ?_
          refine g_iinc (lv' := [(4, iv (x5 + 1)), (3, iv ((x4 + 1) % 4096)), (0, .ref (r 310))]) X dX9_placeOfKey_147 (k := 2) rfl (by decide) rfl ?_
          refine g_goto (tgt := 49) X dX9_placeOfKey_150 (by decide) ?_
          exact g_sub (lv' := [(0, .ref (r 310)), (3, iv ((x4 + 1) % 4096)), (4, iv (x5 + 1))]) [2, 1, 0] rfl (ih ((x4 + 1) % 4096) (x5 + 1) t12 h)
        refine g_lcmp_ne (tgt := 139) X dX9_placeOfKey_91 dX9_placeOfKey_92 (by decide) h (fun h => ?_) (fun h => ?_)
        · exact g_sub (lv' := [(0, .ref (r 310)), (3, iv x4), (4, iv x5)]) [1, 2, 3] rfl (hJ13 t6 h)
        · refine g_aload_n X dX9_placeOfKey_95 1 rfl ?_
          refine g_getR X fH_X9_11_310 rfl dX9_placeOfKey_96 ?_
          refine g_iconst X dX9_placeOfKey_99 ?_
          refine g_iload X dX9_placeOfKey_100 0 rfl ?_
          refine g_imul X dX9_placeOfKey_102 ?_
          refine g_iconst X dX9_placeOfKey_103 ?_
          refine g_iadd X dX9_placeOfKey_104 ?_
          refine g_lald X aH_430 dX9_placeOfKey_105 h (fun v14 h => ?_)
          refine g_aload_n X dX9_placeOfKey_106 1 rfl ?_
          refine g_getR X fH_X9_33_310 rfl dX9_placeOfKey_107 ?_
          refine g_iconst X dX9_placeOfKey_110 ?_
          refine g_lald X aH_436 dX9_placeOfKey_111 h (fun v15 h => ?_)
          refine g_lcmp_ne (tgt := 139) X dX9_placeOfKey_112 dX9_placeOfKey_113 (by decide) h (fun h => ?_) (fun h => ?_)
          · exact g_sub (lv' := [(0, .ref (r 310)), (3, iv x4), (4, iv x5)]) [1, 2, 3] rfl (hJ13 t6 h)
          · refine g_aload_n X dX9_placeOfKey_116 1 rfl ?_
            refine g_getR X fH_X9_11_310 rfl dX9_placeOfKey_117 ?_
            refine g_iconst X dX9_placeOfKey_120 ?_
            refine g_iload X dX9_placeOfKey_121 0 rfl ?_
            refine g_imul X dX9_placeOfKey_123 ?_
            refine g_iconst X dX9_placeOfKey_124 ?_
            refine g_iadd X dX9_placeOfKey_125 ?_
            refine g_lald X aH_430 dX9_placeOfKey_126 h (fun v16 h => ?_)
            refine g_aload_n X dX9_placeOfKey_127 1 rfl ?_
            refine g_getR X fH_X9_33_310 rfl dX9_placeOfKey_128 ?_
            refine g_iconst X dX9_placeOfKey_131 ?_
            refine g_lald X aH_436 dX9_placeOfKey_132 h (fun v17 h => ?_)
            refine g_lcmp_ne (tgt := 139) X dX9_placeOfKey_133 dX9_placeOfKey_134 (by decide) h (fun h => ?_) (fun h => ?_)
            · exact g_sub (lv' := [(0, .ref (r 310)), (3, iv x4), (4, iv x5)]) [1, 2, 3] rfl (hJ13 t6 h)
            · refine g_iload_n X dX9_placeOfKey_137 2 rfl ?_
              exact g_iret X h dX9_placeOfKey_138
set_option maxHeartbeats 4000000 in
set_option maxRecDepth 100000 in
theorem b_f_X9_placeOfKey {p : Program} {l : Launch} {e : Env} {s : State} {m : MethodId} {args : Array Value} {below : List Frame} {meth : Method} {c : Code} {E : cE} {A : Nat → Prop} {r : Nat → Nat} {mc ms : Nat} {z : Int × St} {N : Nat} {t : St} (X : gX p s m meth c cX9_placeOfKey 6 (some .int) yX9_placeOfKey args E A) (h : f_X9_placeOfKey N t = some z) : gP p l e rm_f_X9_placeOfKey s m args below meth c E A 6 (MQ below ((gqI E (gW E r shH) z) A) args s mc ms A) (gW E r shH) 0 [(0, .ref (r 310))] [] t := by
  unfold f_X9_placeOfKey at h
  refine g_aload_n X dX9_placeOfKey_0 0 rfl ?_
  refine g_getR X fH_X9_33_310 rfl dX9_placeOfKey_1 ?_
  refine g_iconst X dX9_placeOfKey_4 ?_
  refine g_lald X aH_436 dX9_placeOfKey_5 h (fun v1 h => ?_)
  refine g_ldc2 X rfl wdL_RX9_134 dX9_placeOfKey_6 ?_
  refine g_lmul X dX9_placeOfKey_9 ?_
  refine g_aload_n X dX9_placeOfKey_10 0 rfl ?_
  refine g_getR X fH_X9_33_310 rfl dX9_placeOfKey_11 ?_
  refine g_iconst X dX9_placeOfKey_14 ?_
  refine g_lald X aH_436 dX9_placeOfKey_15 h (fun v2 h => ?_)
  refine g_ladd X dX9_placeOfKey_16 ?_
  refine g_ldc2 X rfl wdL_RX9_134 dX9_placeOfKey_17 ?_
  refine g_lmul X dX9_placeOfKey_20 ?_
  refine g_aload_n X dX9_placeOfKey_21 0 rfl ?_
  refine g_getR X fH_X9_33_310 rfl dX9_placeOfKey_22 ?_
  refine g_iconst X dX9_placeOfKey_25 ?_
  refine g_lald X aH_436 dX9_placeOfKey_26 h (fun v3 h => ?_)
  refine g_ladd X dX9_placeOfKey_27 ?_
  refine g_lstore_n (lv' := [(1, .long ((((v1 * (31 : Int64)) + v2) * (31 : Int64)) + v3)), (0, .ref (r 310))]) X dX9_placeOfKey_28 rfl (by decide) rfl ?_
  refine g_lload_n X dX9_placeOfKey_29 0 rfl ?_
  refine g_lload_n X dX9_placeOfKey_30 0 rfl ?_
  refine g_bipush X dX9_placeOfKey_31 (by decide) ?_
  refine g_lushr X dX9_placeOfKey_33 ?_
  refine g_lxor X dX9_placeOfKey_34 ?_
  refine g_lstore_n (lv' := [(1, .long (((((v1 * (31 : Int64)) + v2) * (31 : Int64)) + v3) ^^^ (ushrL ((((v1 * (31 : Int64)) + v2) * (31 : Int64)) + v3) 29))), (0, .ref (r 310))]) X dX9_placeOfKey_35 rfl (by decide) rfl ?_
  refine g_lload_n X dX9_placeOfKey_36 0 rfl ?_
  refine g_ldc2 X rfl wdL_RX9_136 dX9_placeOfKey_37 ?_
  refine g_lmul X dX9_placeOfKey_40 ?_
  refine g_bipush X dX9_placeOfKey_41 (by decide) ?_
  refine g_lushr X dX9_placeOfKey_43 ?_
  refine g_l2i X dX9_placeOfKey_44 ?_
  refine g_istore_n (lv' := [(3, iv ((ushrL ((((((v1 * (31 : Int64)) + v2) * (31 : Int64)) + v3) ^^^ (ushrL ((((v1 * (31 : Int64)) + v2) * (31 : Int64)) + v3) 29)) * (-7046029254386353131 : Int64)) 52).toInt)), (1, .long (((((v1 * (31 : Int64)) + v2) * (31 : Int64)) + v3) ^^^ (ushrL ((((v1 * (31 : Int64)) + v2) * (31 : Int64)) + v3) 29))), (0, .ref (r 310))]) X dX9_placeOfKey_45 rfl (by decide) rfl ?_
  refine g_iconst X dX9_placeOfKey_46 ?_
  refine g_istore (lv' := [(4, iv 0), (3, iv ((ushrL ((((((v1 * (31 : Int64)) + v2) * (31 : Int64)) + v3) ^^^ (ushrL ((((v1 * (31 : Int64)) + v2) * (31 : Int64)) + v3) 29)) * (-7046029254386353131 : Int64)) 52).toInt)), (1, .long (((((v1 * (31 : Int64)) + v2) * (31 : Int64)) + v3) ^^^ (ushrL ((((v1 * (31 : Int64)) + v2) * (31 : Int64)) + v3) 29))), (0, .ref (r 310))]) X dX9_placeOfKey_47 (by decide) rfl ?_
  refine g_sub (lv' := [(0, .ref (r 310)), (3, iv ((ushrL ((((((v1 * (31 : Int64)) + v2) * (31 : Int64)) + v3) ^^^ (ushrL ((((v1 * (31 : Int64)) + v2) * (31 : Int64)) + v3) 29)) * (-7046029254386353131 : Int64)) 52).toInt)), (4, iv 0)]) [3, 1, 0] rfl (t_f_X9_placeOfKey_L49 X (fun k18 t19 h => ?_) N ((ushrL ((((((v1 * (31 : Int64)) + v2) * (31 : Int64)) + v3) ^^^ (ushrL ((((v1 * (31 : Int64)) + v2) * (31 : Int64)) + v3) 29)) * (-7046029254386353131 : Int64)) 52).toInt) 0 t h)
  · refine g_iload_n X dX9_placeOfKey_153 0 rfl ?_
    exact g_iret X h dX9_placeOfKey_154
set_option maxHeartbeats 4000000 in
set_option maxRecDepth 100000 in
theorem cp_X9_placeOfKey (l : Launch) (E : cE) (r : Nat → Nat) (N : Nat) (t : St) (z : Int × St) (h : f_X9_placeOfKey N t = some z) : cM l E yX9_placeOfKey cX9_placeOfKey 6 (some .int) rm_f_X9_placeOfKey [.ref (r 310)] (gW E r shH t) (gqI E (gW E r shH) z) := by
  refine g_of (w := gW E r shH) (by decide) (Nat.le_of_ble_eq_true rfl) ?_
  intro p e s m below meth c A X
  exact g_sub (lv' := [(0, .ref (r 310))]) [0] rfl (b_f_X9_placeOfKey X h)
theorem yy_X9_placeOfKey : cY yX9_placeOfKey cX9_placeOfKey 6 (some .int) 0 := ⟨wdK_X9_placeOfKey, wdZ_RX9, by decide +kernel⟩
theorem yi_X9_placeOfKey : cYi yX9_placeOfKey := ⟨wdN_X9_placeOfKey, wdS_X9_placeOfKey⟩
theorem dX9_meet_0 : decode cX9_meet 0 = .ok (.aload_n 0, 1) := by decide +kernel
theorem dX9_meet_1 : decode cX9_meet 1 = .ok (.invokevirtual 100, 3) := by decide +kernel
theorem dX9_meet_4 : decode cX9_meet 4 = .ok (.istore_n 1, 1) := by decide +kernel
theorem dX9_meet_5 : decode cX9_meet 5 = .ok (.aload_n 0, 1) := by decide +kernel
theorem dX9_meet_6 : decode cX9_meet 6 = .ok (.getfield 15, 3) := by decide +kernel
theorem dX9_meet_9 : decode cX9_meet 9 = .ok (.iload_n 1, 1) := by decide +kernel
theorem dX9_meet_10 : decode cX9_meet 10 = .ok (.saload, 1) := by decide +kernel
theorem dX9_meet_11 : decode cX9_meet 11 = .ok (.ifCond .eq 12, 3) := by decide +kernel
theorem dX9_meet_14 : decode cX9_meet 14 = .ok (.aload_n 0, 1) := by decide +kernel
theorem dX9_meet_15 : decode cX9_meet 15 = .ok (.getfield 15, 3) := by decide +kernel
theorem dX9_meet_18 : decode cX9_meet 18 = .ok (.iload_n 1, 1) := by decide +kernel
theorem dX9_meet_19 : decode cX9_meet 19 = .ok (.saload, 1) := by decide +kernel
theorem dX9_meet_20 : decode cX9_meet 20 = .ok (.iconst 1, 1) := by decide +kernel
theorem dX9_meet_21 : decode cX9_meet 21 = .ok (.isub, 1) := by decide +kernel
theorem dX9_meet_22 : decode cX9_meet 22 = .ok (.ireturn, 1) := by decide +kernel
theorem dX9_meet_23 : decode cX9_meet 23 = .ok (.aload_n 0, 1) := by decide +kernel
theorem dX9_meet_24 : decode cX9_meet 24 = .ok (.getfield 74, 3) := by decide +kernel
theorem dX9_meet_27 : decode cX9_meet 27 = .ok (.sipush 2000, 3) := by decide +kernel
theorem dX9_meet_30 : decode cX9_meet 30 = .ok (.if_icmp .ge 13, 3) := by decide +kernel
theorem dX9_meet_33 : decode cX9_meet 33 = .ok (.aload_n 0, 1) := by decide +kernel
theorem dX9_meet_34 : decode cX9_meet 34 = .ok (.getfield 138, 3) := by decide +kernel
theorem dX9_meet_37 : decode cX9_meet 37 = .ok (.sipush 10000, 3) := by decide +kernel
theorem dX9_meet_40 : decode cX9_meet 40 = .ok (.if_icmp .lt 5, 3) := by decide +kernel
theorem dX9_meet_43 : decode cX9_meet 43 = .ok (.iconst (-1), 1) := by decide +kernel
theorem dX9_meet_44 : decode cX9_meet 44 = .ok (.ireturn, 1) := by decide +kernel
theorem dX9_meet_45 : decode cX9_meet 45 = .ok (.aload_n 0, 1) := by decide +kernel
theorem dX9_meet_46 : decode cX9_meet 46 = .ok (.getfield 33, 3) := by decide +kernel
theorem dX9_meet_49 : decode cX9_meet 49 = .ok (.iconst 0, 1) := by decide +kernel
theorem dX9_meet_50 : decode cX9_meet 50 = .ok (.aload_n 0, 1) := by decide +kernel
theorem dX9_meet_51 : decode cX9_meet 51 = .ok (.getfield 11, 3) := by decide +kernel
theorem dX9_meet_54 : decode cX9_meet 54 = .ok (.iconst 3, 1) := by decide +kernel
theorem dX9_meet_55 : decode cX9_meet 55 = .ok (.aload_n 0, 1) := by decide +kernel
theorem dX9_meet_56 : decode cX9_meet 56 = .ok (.getfield 74, 3) := by decide +kernel
theorem dX9_meet_59 : decode cX9_meet 59 = .ok (.imul, 1) := by decide +kernel
theorem dX9_meet_60 : decode cX9_meet 60 = .ok (.iconst 3, 1) := by decide +kernel
theorem dX9_meet_61 : decode cX9_meet 61 = .ok (.invokestatic 141, 3) := by decide +kernel
theorem dX9_meet_64 : decode cX9_meet 64 = .ok (.aload_n 0, 1) := by decide +kernel
theorem dX9_meet_65 : decode cX9_meet 65 = .ok (.dup, 1) := by decide +kernel
theorem dX9_meet_66 : decode cX9_meet 66 = .ok (.getfield 74, 3) := by decide +kernel
theorem dX9_meet_69 : decode cX9_meet 69 = .ok (.iconst 1, 1) := by decide +kernel
theorem dX9_meet_70 : decode cX9_meet 70 = .ok (.iadd, 1) := by decide +kernel
theorem dX9_meet_71 : decode cX9_meet 71 = .ok (.putfield 74, 3) := by decide +kernel
theorem dX9_meet_74 : decode cX9_meet 74 = .ok (.aload_n 0, 1) := by decide +kernel
theorem dX9_meet_75 : decode cX9_meet 75 = .ok (.dup, 1) := by decide +kernel
theorem dX9_meet_76 : decode cX9_meet 76 = .ok (.getfield 138, 3) := by decide +kernel
theorem dX9_meet_79 : decode cX9_meet 79 = .ok (.iconst 1, 1) := by decide +kernel
theorem dX9_meet_80 : decode cX9_meet 80 = .ok (.iadd, 1) := by decide +kernel
theorem dX9_meet_81 : decode cX9_meet 81 = .ok (.putfield 138, 3) := by decide +kernel
theorem dX9_meet_84 : decode cX9_meet 84 = .ok (.aload_n 0, 1) := by decide +kernel
theorem dX9_meet_85 : decode cX9_meet 85 = .ok (.getfield 15, 3) := by decide +kernel
theorem dX9_meet_88 : decode cX9_meet 88 = .ok (.iload_n 1, 1) := by decide +kernel
theorem dX9_meet_89 : decode cX9_meet 89 = .ok (.aload_n 0, 1) := by decide +kernel
theorem dX9_meet_90 : decode cX9_meet 90 = .ok (.getfield 74, 3) := by decide +kernel
theorem dX9_meet_93 : decode cX9_meet 93 = .ok (.i2s, 1) := by decide +kernel
theorem dX9_meet_94 : decode cX9_meet 94 = .ok (.sastore, 1) := by decide +kernel
theorem dX9_meet_95 : decode cX9_meet 95 = .ok (.aload_n 0, 1) := by decide +kernel
theorem dX9_meet_96 : decode cX9_meet 96 = .ok (.getfield 74, 3) := by decide +kernel
theorem dX9_meet_99 : decode cX9_meet 99 = .ok (.iconst 1, 1) := by decide +kernel
theorem dX9_meet_100 : decode cX9_meet 100 = .ok (.isub, 1) := by decide +kernel
theorem dX9_meet_101 : decode cX9_meet 101 = .ok (.ireturn, 1) := by decide +kernel
abbrev rm_f_X9_meet : Room := { frames := 1, cells := 0, slots := 0, locals := 60 }
def f_X9_meet (N : Nat) (t : St) : Option (Int × St) :=
    bdI (f_X9_placeOfKey N t) fun v2 t1 =>
    ixI v2 4096 (lt1 (t1.1 431 v2.toNat) fun v3 =>
    cmpI v3 0 (if v3 = 0 then (lt1 (t1.1 310 11) fun v4 =>
    cmpI v4 2000 (if v4 < 2000 then (lt1 (t1.1 310 13) fun v5 =>
    cmpI v5 10000 (if v5 < 10000 then (lt1 (t1.1 310 11) fun v6 =>
    cpI 0 (3 * v6) 3 3 6000 (lt1 (cpL t1 436 430 (0 : Int).toNat (3 * v6).toNat (3 : Int).toNat) fun t7 =>
    lt1 (t7.1 310 11) fun v8 =>
    lt1 (pI t7 310 11 (v8 + 1)) fun t9 =>
    lt1 (t9.1 310 13) fun v10 =>
    lt1 (pI t9 310 13 (v10 + 1)) fun t11 =>
    lt1 (t11.1 310 11) fun v12 =>
    ixI v2 4096 (lt1 (pI t11 431 v2.toNat (b16 (b16 v12))) fun t13 =>
    lt1 (t13.1 310 11) fun v14 =>
    some (v14 - 1, t13))))
    else (some ((-1), t1))))
    else (some ((-1), t1))))
    else (ixI v2 4096 (lt1 (t1.1 431 v2.toNat) fun v15 =>
    some (v15 - 1, t1)))))
set_option maxHeartbeats 4000000 in
set_option maxRecDepth 100000 in
theorem b_f_X9_meet {p : Program} {l : Launch} {e : Env} {s : State} {m : MethodId} {args : Array Value} {below : List Frame} {meth : Method} {c : Code} {E : cE} {A : Nat → Prop} {r : Nat → Nat} {mc ms : Nat} {z : Int × St} {N : Nat} {t : St} (X : gX p s m meth c cX9_meet 2 (some .int) yX9_meet args E A) (h : f_X9_meet N t = some z) : gP p l e rm_f_X9_meet s m args below meth c E A 2 (MQ below ((gqI E (gW E r shH) z) A) args s mc ms A) (gW E r shH) 0 [(0, .ref (r 310))] [] t := by
  unfold f_X9_meet at h
  refine g_aload_n X dX9_meet_0 0 rfl ?_
  refine g_callOI (rest := []) X (fun u9 h9 => cp_X9_placeOfKey l E r N t u9 h9) yy_X9_placeOfKey yi_X9_placeOfKey wdM_RX9_100 ⟨_, _, oH_310⟩ rfl rfl rfl (Nat.le_of_ble_eq_true rfl) dX9_meet_1 ⟨by decide, by decide⟩ ⟨rfl, rfl⟩ h (fun v2 t1 h => ?_)
  refine g_istore_n (lv' := [(1, iv v2), (0, .ref (r 310))]) X dX9_meet_4 rfl (by decide) rfl ?_
  refine g_aload_n X dX9_meet_5 1 rfl ?_
  refine g_getR X fH_X9_15_310 rfl dX9_meet_6 ?_
  refine g_iload_n X dX9_meet_9 0 rfl ?_
  refine g_sald X aH_431 dX9_meet_10 h (fun v3 h => ?_)
  refine g_if_eq (tgt := 23) X dX9_meet_11 (by decide) h (fun h => ?_) (fun h => ?_)
  · refine g_aload_n X dX9_meet_23 1 rfl ?_
    refine g_getI X fH_X9_74_310 rfl dX9_meet_24 h (fun v4 h => ?_)
    refine g_sipush X dX9_meet_27 (by decide) ?_
    refine g_icmp_ge (tgt := 43) X dX9_meet_30 (by decide) h (fun h => ?_) (fun h => ?_)
    · refine g_iconst X dX9_meet_43 ?_
      exact g_iret X h dX9_meet_44
    · refine g_aload_n X dX9_meet_33 1 rfl ?_
      refine g_getI X fH_X9_138_310 rfl dX9_meet_34 h (fun v5 h => ?_)
      refine g_sipush X dX9_meet_37 (by decide) ?_
      refine g_icmp_lt (tgt := 45) X dX9_meet_40 (by decide) h (fun h => ?_) (fun h => ?_)
      · refine g_aload_n X dX9_meet_45 1 rfl ?_
        refine g_getR X fH_X9_33_310 rfl dX9_meet_46 ?_
        refine g_iconst X dX9_meet_49 ?_
        refine g_aload_n X dX9_meet_50 1 rfl ?_
        refine g_getR X fH_X9_11_310 rfl dX9_meet_51 ?_
        refine g_iconst X dX9_meet_54 ?_
        refine g_aload_n X dX9_meet_55 1 rfl ?_
        refine g_getI X fH_X9_74_310 rfl dX9_meet_56 h (fun v6 h => ?_)
        refine g_imul X dX9_meet_59 ?_
        refine g_iconst X dX9_meet_60 ?_
        refine g_copyL X aH_436 aH_430 wdM_RX9_141 (by decide) (Nat.le_of_ble_eq_true rfl) dX9_meet_61 h (fun t7 h => ?_)
        refine g_aload_n X dX9_meet_64 1 rfl ?_
        refine g_dup X rfl dX9_meet_65 ?_
        refine g_getI X fH_X9_74_310 rfl dX9_meet_66 h (fun v8 h => ?_)
        refine g_iconst X dX9_meet_69 ?_
        refine g_iadd X dX9_meet_70 ?_
        refine g_putI X fH_X9_74_310w rfl dX9_meet_71 h (fun t9 h => ?_)
        refine g_aload_n X dX9_meet_74 1 rfl ?_
        refine g_dup X rfl dX9_meet_75 ?_
        refine g_getI X fH_X9_138_310 rfl dX9_meet_76 h (fun v10 h => ?_)
        refine g_iconst X dX9_meet_79 ?_
        refine g_iadd X dX9_meet_80 ?_
        refine g_putI X fH_X9_138_310w rfl dX9_meet_81 h (fun t11 h => ?_)
        refine g_aload_n X dX9_meet_84 1 rfl ?_
        refine g_getR X fH_X9_15_310 rfl dX9_meet_85 ?_
        refine g_iload_n X dX9_meet_88 0 rfl ?_
        refine g_aload_n X dX9_meet_89 1 rfl ?_
        refine g_getI X fH_X9_74_310 rfl dX9_meet_90 h (fun v12 h => ?_)
        refine g_i2s X dX9_meet_93 ?_
        refine g_sast X aH_431 dX9_meet_94 h (fun t13 h => ?_)
        refine g_aload_n X dX9_meet_95 1 rfl ?_
        refine g_getI X fH_X9_74_310 rfl dX9_meet_96 h (fun v14 h => ?_)
        refine g_iconst X dX9_meet_99 ?_
        refine g_isub X dX9_meet_100 ?_
        exact g_iret X h dX9_meet_101
      · refine g_iconst X dX9_meet_43 ?_
        exact g_iret X h dX9_meet_44
  · refine g_aload_n X dX9_meet_14 1 rfl ?_
    refine g_getR X fH_X9_15_310 rfl dX9_meet_15 ?_
    refine g_iload_n X dX9_meet_18 0 rfl ?_
    refine g_sald X aH_431 dX9_meet_19 h (fun v15 h => ?_)
    refine g_iconst X dX9_meet_20 ?_
    refine g_isub X dX9_meet_21 ?_
    exact g_iret X h dX9_meet_22
set_option maxHeartbeats 4000000 in
set_option maxRecDepth 100000 in
theorem cp_X9_meet (l : Launch) (E : cE) (r : Nat → Nat) (N : Nat) (t : St) (z : Int × St) (h : f_X9_meet N t = some z) : cM l E yX9_meet cX9_meet 2 (some .int) rm_f_X9_meet [.ref (r 310)] (gW E r shH t) (gqI E (gW E r shH) z) := by
  refine g_of (w := gW E r shH) (by decide) (Nat.le_of_ble_eq_true rfl) ?_
  intro p e s m below meth c A X
  exact g_sub (lv' := [(0, .ref (r 310))]) [0] rfl (b_f_X9_meet X h)
theorem yy_X9_meet : cY yX9_meet cX9_meet 2 (some .int) 0 := ⟨wdK_X9_meet, wdZ_RX9, by decide +kernel⟩
theorem yi_X9_meet : cYi yX9_meet := ⟨wdN_X9_meet, wdS_X9_meet⟩
theorem dX9_onward_0 : decode cX9_onward 0 = .ok (.aload_n 0, 1) := by decide +kernel
theorem dX9_onward_1 : decode cX9_onward 1 = .ok (.getfield 20, 3) := by decide +kernel
theorem dX9_onward_4 : decode cX9_onward 4 = .ok (.iload_n 1, 1) := by decide +kernel
theorem dX9_onward_5 : decode cX9_onward 5 = .ok (.bipush 32, 2) := by decide +kernel
theorem dX9_onward_7 : decode cX9_onward 7 = .ok (.imul, 1) := by decide +kernel
theorem dX9_onward_8 : decode cX9_onward 8 = .ok (.iload_n 2, 1) := by decide +kernel
theorem dX9_onward_9 : decode cX9_onward 9 = .ok (.iadd, 1) := by decide +kernel
theorem dX9_onward_10 : decode cX9_onward 10 = .ok (.saload, 1) := by decide +kernel
theorem dX9_onward_11 : decode cX9_onward 11 = .ok (.istore 4, 2) := by decide +kernel
theorem dX9_onward_13 : decode cX9_onward 13 = .ok (.iload 4, 2) := by decide +kernel
theorem dX9_onward_15 : decode cX9_onward 15 = .ok (.aload_n 0, 1) := by decide +kernel
theorem dX9_onward_16 : decode cX9_onward 16 = .ok (.getfield 23, 3) := by decide +kernel
theorem dX9_onward_19 : decode cX9_onward 19 = .ok (.iload_n 3, 1) := by decide +kernel
theorem dX9_onward_20 : decode cX9_onward 20 = .ok (.iconst 1, 1) := by decide +kernel
theorem dX9_onward_21 : decode cX9_onward 21 = .ok (.iadd, 1) := by decide +kernel
theorem dX9_onward_22 : decode cX9_onward 22 = .ok (.iaload, 1) := by decide +kernel
theorem dX9_onward_23 : decode cX9_onward 23 = .ok (.if_icmp .lt 32, 3) := by decide +kernel
theorem dX9_onward_26 : decode cX9_onward 26 = .ok (.iload 4, 2) := by decide +kernel
theorem dX9_onward_28 : decode cX9_onward 28 = .ok (.aload_n 0, 1) := by decide +kernel
theorem dX9_onward_29 : decode cX9_onward 29 = .ok (.getfield 23, 3) := by decide +kernel
theorem dX9_onward_32 : decode cX9_onward 32 = .ok (.iload_n 3, 1) := by decide +kernel
theorem dX9_onward_33 : decode cX9_onward 33 = .ok (.iconst 2, 1) := by decide +kernel
theorem dX9_onward_34 : decode cX9_onward 34 = .ok (.iadd, 1) := by decide +kernel
theorem dX9_onward_35 : decode cX9_onward 35 = .ok (.iaload, 1) := by decide +kernel
theorem dX9_onward_36 : decode cX9_onward 36 = .ok (.if_icmp .ge 19, 3) := by decide +kernel
theorem dX9_onward_39 : decode cX9_onward 39 = .ok (.aload_n 0, 1) := by decide +kernel
theorem dX9_onward_40 : decode cX9_onward 40 = .ok (.getfield 27, 3) := by decide +kernel
theorem dX9_onward_43 : decode cX9_onward 43 = .ok (.iload 4, 2) := by decide +kernel
theorem dX9_onward_45 : decode cX9_onward 45 = .ok (.laload, 1) := by decide +kernel
theorem dX9_onward_46 : decode cX9_onward 46 = .ok (.lconst 0, 1) := by decide +kernel
theorem dX9_onward_47 : decode cX9_onward 47 = .ok (.lcmp, 1) := by decide +kernel
theorem dX9_onward_48 : decode cX9_onward 48 = .ok (.ifCond .le 7, 3) := by decide +kernel
theorem dX9_onward_51 : decode cX9_onward 51 = .ok (.iconst 1, 1) := by decide +kernel
theorem dX9_onward_52 : decode cX9_onward 52 = .ok (.goto 4, 3) := by decide +kernel
theorem dX9_onward_55 : decode cX9_onward 55 = .ok (.iconst 0, 1) := by decide +kernel
theorem dX9_onward_56 : decode cX9_onward 56 = .ok (.istore 5, 2) := by decide +kernel
theorem dX9_onward_58 : decode cX9_onward 58 = .ok (.iload 5, 2) := by decide +kernel
theorem dX9_onward_60 : decode cX9_onward 60 = .ok (.ifCond .eq 8, 3) := by decide +kernel
theorem dX9_onward_63 : decode cX9_onward 63 = .ok (.iload 4, 2) := by decide +kernel
theorem dX9_onward_65 : decode cX9_onward 65 = .ok (.goto 4, 3) := by decide +kernel
theorem dX9_onward_68 : decode cX9_onward 68 = .ok (.iconst (-1), 1) := by decide +kernel
theorem dX9_onward_69 : decode cX9_onward 69 = .ok (.ireturn, 1) := by decide +kernel
abbrev rm_f_X9_onward : Room := { frames := 0, cells := 0, slots := 0, locals := 0 }
def f_X9_onward (N : Nat) (a0 : Int) (a1 : Int) (a2 : Int) (t : St) : Option (Int × St) :=
    ixI ((a0 * 32) + a1) 64000 (lt1 (t.1 432 ((a0 * 32) + a1).toNat) fun v1 =>
    ixI (a2 + 1) 15 (lt1 (t.1 433 (a2 + 1).toNat) fun v2 =>
    jn1 (fun (j3 : Int) (t4 : St) => cmpI j3 0 (if j3 = 0 then (some ((-1), t4))
    else (some (v1, t4)))) fun J5 =>
    jn1 (fun (t6 : St) => J5 0 t6) fun J7 =>
    cmpI v1 v2 (if v1 < v2 then (J7 t)
    else (ixI (a2 + 2) 15 (lt1 (t.1 433 (a2 + 2).toNat) fun v8 =>
    cmpI v1 v8 (if v1 < v8 then (ixI v1 2000 (lt1 (t.2 434 v1.toNat) fun v9 =>
    (if (0 : Int64) < v9 then (J5 1 t)
    else (J7 t))))
    else (J7 t)))))))
set_option maxHeartbeats 4000000 in
set_option maxRecDepth 100000 in
theorem b_f_X9_onward {p : Program} {l : Launch} {e : Env} {s : State} {m : MethodId} {args : Array Value} {below : List Frame} {meth : Method} {c : Code} {E : cE} {A : Nat → Prop} {r : Nat → Nat} {mc ms : Nat} {z : Int × St} {N : Nat} {a0 : Int} {a1 : Int} {a2 : Int} {t : St} (X : gX p s m meth c cX9_onward 6 (some .int) yX9_onward args E A) (h : f_X9_onward N a0 a1 a2 t = some z) : gP p l e rm_f_X9_onward s m args below meth c E A 6 (MQ below ((gqI E (gW E r shH) z) A) args s mc ms A) (gW E r shH) 0 [(0, .ref (r 310)), (1, iv a0), (2, iv a1), (3, iv a2)] [] t := by
  unfold f_X9_onward at h
  refine g_aload_n X dX9_onward_0 0 rfl ?_
  refine g_getR X fH_X9_20_310 rfl dX9_onward_1 ?_
  refine g_iload_n X dX9_onward_4 1 rfl ?_
  refine g_bipush X dX9_onward_5 (by decide) ?_
  refine g_imul X dX9_onward_7 ?_
  refine g_iload_n X dX9_onward_8 2 rfl ?_
  refine g_iadd X dX9_onward_9 ?_
  refine g_sald X aH_432 dX9_onward_10 h (fun v1 h => ?_)
  refine g_istore (lv' := [(4, iv v1), (0, .ref (r 310)), (1, iv a0), (2, iv a1), (3, iv a2)]) X dX9_onward_11 (by decide) rfl ?_
  refine g_iload X dX9_onward_13 0 rfl ?_
  refine g_aload_n X dX9_onward_15 1 rfl ?_
  refine g_getR X fH_X9_23_310 rfl dX9_onward_16 ?_
  refine g_iload_n X dX9_onward_19 4 rfl ?_
  refine g_iconst X dX9_onward_20 ?_
  refine g_iadd X dX9_onward_21 ?_
  refine g_iald X aH_433 dX9_onward_22 h (fun v2 h => ?_)
  refine g_join (J := fun jj => ∀ (j3 : Int) (t4 : St), jj j3 t4 = some z → gP p l e rm_f_X9_onward s m args below meth c E A 6 (MQ below ((gqI E (gW E r shH) z) A) args s mc ms A) (gW E r shH) 56 [(4, iv v1)] [iv j3] t4) h (fun j3 t4 h => ?_) (fun J5 hJ5 h => ?_)
  · refine g_istore (lv' := [(5, iv j3), (4, iv v1)]) X dX9_onward_56 (by decide) rfl ?_
    refine g_iload X dX9_onward_58 0 rfl ?_
    refine g_if_eq (tgt := 68) X dX9_onward_60 (by decide) h (fun h => ?_) (fun h => ?_)
    · refine g_iconst X dX9_onward_68 ?_
      exact g_iret X h dX9_onward_69
    · refine g_iload X dX9_onward_63 1 rfl ?_
      refine g_goto (tgt := 69) X dX9_onward_65 (by decide) ?_
      exact g_iret X h dX9_onward_69
  refine g_join (J := fun jj => ∀ (t6 : St), jj  t6 = some z → gP p l e rm_f_X9_onward s m args below meth c E A 6 (MQ below ((gqI E (gW E r shH) z) A) args s mc ms A) (gW E r shH) 55 [(4, iv v1)] [] t6) h (fun  t6 h => ?_) (fun J7 hJ7 h => ?_)
  · refine g_iconst X dX9_onward_55 ?_
    exact g_sub (lv' := [(4, iv v1)]) [0] rfl (hJ5 0 t6 h)
  refine g_icmp_lt (tgt := 55) X dX9_onward_23 (by decide) h (fun h => ?_) (fun h => ?_)
  · exact g_sub (lv' := [(4, iv v1)]) [0] rfl (hJ7 t h)
  · refine g_iload X dX9_onward_26 0 rfl ?_
    refine g_aload_n X dX9_onward_28 1 rfl ?_
    refine g_getR X fH_X9_23_310 rfl dX9_onward_29 ?_
    refine g_iload_n X dX9_onward_32 4 rfl ?_
    refine g_iconst X dX9_onward_33 ?_
    refine g_iadd X dX9_onward_34 ?_
    refine g_iald X aH_433 dX9_onward_35 h (fun v8 h => ?_)
    refine g_icmp_ge (tgt := 55) X dX9_onward_36 (by decide) h (fun h => ?_) (fun h => ?_)
    · exact g_sub (lv' := [(4, iv v1)]) [0] rfl (hJ7 t h)
    · refine g_aload_n X dX9_onward_39 1 rfl ?_
      refine g_getR X fH_X9_27_310 rfl dX9_onward_40 ?_
      refine g_iload X dX9_onward_43 0 rfl ?_
      refine g_lald X aH_434 dX9_onward_45 h (fun v9 h => ?_)
      refine g_lconst (v := 0) X dX9_onward_46 (by decide) ?_
      refine g_lcmp_le (tgt := 55) X dX9_onward_47 dX9_onward_48 (by decide) h (fun h => ?_) (fun h => ?_)
      · exact g_sub (lv' := [(4, iv v1)]) [0] rfl (hJ7 t h)
      · refine g_iconst X dX9_onward_51 ?_
        refine g_goto (tgt := 56) X dX9_onward_52 (by decide) ?_
        exact g_sub (lv' := [(4, iv v1)]) [0] rfl (hJ5 1 t h)
set_option maxHeartbeats 4000000 in
set_option maxRecDepth 100000 in
theorem cp_X9_onward (l : Launch) (E : cE) (r : Nat → Nat) (N : Nat) (a0 : Int) (a1 : Int) (a2 : Int) (t : St) (z : Int × St) (h : f_X9_onward N a0 a1 a2 t = some z) : cM l E yX9_onward cX9_onward 6 (some .int) rm_f_X9_onward [.ref (r 310), iv a0, iv a1, iv a2] (gW E r shH t) (gqI E (gW E r shH) z) := by
  refine g_of (w := gW E r shH) (by decide) (Nat.le_of_ble_eq_true rfl) ?_
  intro p e s m below meth c A X
  exact g_sub (lv' := [(0, .ref (r 310)), (1, iv a0), (2, iv a1), (3, iv a2)]) [0, 1, 2, 3] rfl (b_f_X9_onward X h)
theorem yy_X9_onward : cY yX9_onward cX9_onward 6 (some .int) 3 := ⟨wdK_X9_onward, wdZ_RX9, by decide +kernel⟩
theorem yi_X9_onward : cYi yX9_onward := ⟨wdN_X9_onward, wdS_X9_onward⟩
theorem dX9_countWays_0 : decode cX9_countWays 0 = .ok (.iconst 0, 1) := by decide +kernel
theorem dX9_countWays_1 : decode cX9_countWays 1 = .ok (.istore_n 3, 1) := by decide +kernel
theorem dX9_countWays_2 : decode cX9_countWays 2 = .ok (.iload_n 3, 1) := by decide +kernel
theorem dX9_countWays_3 : decode cX9_countWays 3 = .ok (.aload_n 0, 1) := by decide +kernel
theorem dX9_countWays_4 : decode cX9_countWays 4 = .ok (.getfield 82, 3) := by decide +kernel
theorem dX9_countWays_7 : decode cX9_countWays 7 = .ok (.if_icmp .ge 91, 3) := by decide +kernel
theorem dX9_countWays_10 : decode cX9_countWays 10 = .ok (.aload_n 0, 1) := by decide +kernel
theorem dX9_countWays_11 : decode cX9_countWays 11 = .ok (.iload_n 1, 1) := by decide +kernel
theorem dX9_countWays_12 : decode cX9_countWays 12 = .ok (.iload_n 3, 1) := by decide +kernel
theorem dX9_countWays_13 : decode cX9_countWays 13 = .ok (.iload_n 2, 1) := by decide +kernel
theorem dX9_countWays_14 : decode cX9_countWays 14 = .ok (.invokevirtual 150, 3) := by decide +kernel
theorem dX9_countWays_17 : decode cX9_countWays 17 = .ok (.istore 4, 2) := by decide +kernel
theorem dX9_countWays_19 : decode cX9_countWays 19 = .ok (.iload 4, 2) := by decide +kernel
theorem dX9_countWays_21 : decode cX9_countWays 21 = .ok (.ifCond .lt 71, 3) := by decide +kernel
theorem dX9_countWays_24 : decode cX9_countWays 24 = .ok (.aload_n 0, 1) := by decide +kernel
theorem dX9_countWays_25 : decode cX9_countWays 25 = .ok (.getfield 46, 3) := by decide +kernel
theorem dX9_countWays_28 : decode cX9_countWays 28 = .ok (.getfield 154, 3) := by decide +kernel
theorem dX9_countWays_31 : decode cX9_countWays 31 = .ok (.iload_n 3, 1) := by decide +kernel
theorem dX9_countWays_32 : decode cX9_countWays 32 = .ok (.iaload, 1) := by decide +kernel
theorem dX9_countWays_33 : decode cX9_countWays 33 = .ok (.aload_n 0, 1) := by decide +kernel
theorem dX9_countWays_34 : decode cX9_countWays 34 = .ok (.getfield 30, 3) := by decide +kernel
theorem dX9_countWays_37 : decode cX9_countWays 37 = .ok (.iload 4, 2) := by decide +kernel
theorem dX9_countWays_39 : decode cX9_countWays 39 = .ok (.iaload, 1) := by decide +kernel
theorem dX9_countWays_40 : decode cX9_countWays 40 = .ok (.iadd, 1) := by decide +kernel
theorem dX9_countWays_41 : decode cX9_countWays 41 = .ok (.istore 5, 2) := by decide +kernel
theorem dX9_countWays_43 : decode cX9_countWays 43 = .ok (.aload_n 0, 1) := by decide +kernel
theorem dX9_countWays_44 : decode cX9_countWays 44 = .ok (.getfield 30, 3) := by decide +kernel
theorem dX9_countWays_47 : decode cX9_countWays 47 = .ok (.iload_n 1, 1) := by decide +kernel
theorem dX9_countWays_48 : decode cX9_countWays 48 = .ok (.aload_n 0, 1) := by decide +kernel
theorem dX9_countWays_49 : decode cX9_countWays 49 = .ok (.getfield 27, 3) := by decide +kernel
theorem dX9_countWays_52 : decode cX9_countWays 52 = .ok (.iload_n 1, 1) := by decide +kernel
theorem dX9_countWays_53 : decode cX9_countWays 53 = .ok (.laload, 1) := by decide +kernel
theorem dX9_countWays_54 : decode cX9_countWays 54 = .ok (.lconst 0, 1) := by decide +kernel
theorem dX9_countWays_55 : decode cX9_countWays 55 = .ok (.lcmp, 1) := by decide +kernel
theorem dX9_countWays_56 : decode cX9_countWays 56 = .ok (.ifCond .ne 8, 3) := by decide +kernel
theorem dX9_countWays_59 : decode cX9_countWays 59 = .ok (.iload 5, 2) := by decide +kernel
theorem dX9_countWays_61 : decode cX9_countWays 61 = .ok (.goto 14, 3) := by decide +kernel
theorem dX9_countWays_64 : decode cX9_countWays 64 = .ok (.aload_n 0, 1) := by decide +kernel
theorem dX9_countWays_65 : decode cX9_countWays 65 = .ok (.getfield 30, 3) := by decide +kernel
theorem dX9_countWays_68 : decode cX9_countWays 68 = .ok (.iload_n 1, 1) := by decide +kernel
theorem dX9_countWays_69 : decode cX9_countWays 69 = .ok (.iaload, 1) := by decide +kernel
theorem dX9_countWays_70 : decode cX9_countWays 70 = .ok (.iload 5, 2) := by decide +kernel
theorem dX9_countWays_72 : decode cX9_countWays 72 = .ok (.invokestatic 157, 3) := by decide +kernel
theorem dX9_countWays_75 : decode cX9_countWays 75 = .ok (.iastore, 1) := by decide +kernel
theorem dX9_countWays_76 : decode cX9_countWays 76 = .ok (.aload_n 0, 1) := by decide +kernel
theorem dX9_countWays_77 : decode cX9_countWays 77 = .ok (.getfield 27, 3) := by decide +kernel
theorem dX9_countWays_80 : decode cX9_countWays 80 = .ok (.iload_n 1, 1) := by decide +kernel
theorem dX9_countWays_81 : decode cX9_countWays 81 = .ok (.dup2, 1) := by decide +kernel
theorem dX9_countWays_82 : decode cX9_countWays 82 = .ok (.laload, 1) := by decide +kernel
theorem dX9_countWays_83 : decode cX9_countWays 83 = .ok (.aload_n 0, 1) := by decide +kernel
theorem dX9_countWays_84 : decode cX9_countWays 84 = .ok (.getfield 27, 3) := by decide +kernel
theorem dX9_countWays_87 : decode cX9_countWays 87 = .ok (.iload 4, 2) := by decide +kernel
theorem dX9_countWays_89 : decode cX9_countWays 89 = .ok (.laload, 1) := by decide +kernel
theorem dX9_countWays_90 : decode cX9_countWays 90 = .ok (.ladd, 1) := by decide +kernel
theorem dX9_countWays_91 : decode cX9_countWays 91 = .ok (.lastore, 1) := by decide +kernel
theorem dX9_countWays_92 : decode cX9_countWays 92 = .ok (.iinc 3 1, 3) := by decide +kernel
theorem dX9_countWays_95 : decode cX9_countWays 95 = .ok (.goto (-93), 3) := by decide +kernel
theorem dX9_countWays_98 : decode cX9_countWays 98 = .ok (.return_, 1) := by decide +kernel
abbrev rm_f_X9_countWays : Room := { frames := 1, cells := 0, slots := 0, locals := 25 }
def f_X9_countWays_L2 (N : Nat) (K5 : (St → Option (St))) (y1 : Int) (y2 : Int) : Nat → Int → St → Option (St)
  | 0, _, _ => none
  | n9 + 1, x3, t4 =>
    lt1 (t4.1 310 12) fun v6 =>
    cmpI x3 v6 (if x3 < v6 then (bdI (f_X9_onward N y1 x3 y2 t4) fun v8 t7 =>
    jn1 (fun (t9 : St) => f_X9_countWays_L2 N K5 y1 y2 n9 (x3 + 1) t9) fun J10 =>
    cmpI v8 0 (if v8 < 0 then (J10 t7)
    else (ixI x3 32 (lt1 (t7.1 362 x3.toNat) fun v11 =>
    ixI v8 2000 (lt1 (t7.1 435 v8.toNat) fun v12 =>
    ixI y1 2000 (lt1 (t7.2 434 y1.toNat) fun v13 =>
    jn1 (fun (j14 : Int) (t15 : St) => ixI y1 2000 (lt1 (pI t15 435 y1.toNat j14) fun t17 =>
    ixI y1 2000 (lt1 (t17.2 434 y1.toNat) fun v18 =>
    ixI v8 2000 (lt1 (t17.2 434 v8.toNat) fun v19 =>
    ixI y1 2000 (lt1 (pL t17 434 y1.toNat (v18 + v19)) fun t20 =>
    J10 t20))))) fun J16 =>
    (if v13 = (0 : Int64) then (J16 (v11 + v12) t7)
    else (ixI y1 2000 (lt1 (t7.1 435 y1.toNat) fun v21 =>
    cmpI v21 (v11 + v12) (
    J16 (min v21 (v11 + v12)) t7))))))))))
    else (K5 t4))
def f_X9_countWays (N : Nat) (a0 : Int) (a1 : Int) (t : St) : Option (St) :=
    f_X9_countWays_L2 N (fun (t22 : St) => some t22) a0 a1 N 0 t
set_option maxHeartbeats 4000000 in
set_option maxRecDepth 100000 in
theorem t_f_X9_countWays_L2 {p : Program} {l : Launch} {e : Env} {s : State} {m : MethodId} {args : Array Value} {below : List Frame} {meth : Method} {c : Code} {E : cE} {A : Nat → Prop} {r : Nat → Nat} {mc ms : Nat} {z : St} {N : Nat} {K5 : (St → Option (St))} {y1 : Int} {y2 : Int} (X : gX p s m meth c cX9_countWays 6 none yX9_countWays args E A) (hK5 : ∀ (t9 : St), K5 t9 = some z → gP p l e rm_f_X9_countWays s m args below meth c E A 6 (MQ below ((gqV E (gW E r shH) z) A) args s mc ms A) (gW E r shH) 98 [] [] t9) : ∀ (n9 : Nat) (x3 : Int) (t4 : St), f_X9_countWays_L2 N K5 y1 y2 n9 x3 t4 = some z → gP p l e rm_f_X9_countWays s m args below meth c E A 6 (MQ below ((gqV E (gW E r shH) z) A) args s mc ms A) (gW E r shH) 2 [(0, .ref (r 310)), (1, iv y1), (2, iv y2), (3, iv x3)] [] t4 := by
  intro n9
  induction n9 with
  | zero => intro x3 t4 h; cases h
  | succ n9 ih =>
    intro x3 t4 h
    unfold f_X9_countWays_L2 at h
    refine g_iload_n X dX9_countWays_2 3 rfl ?_
    refine g_aload_n X dX9_countWays_3 0 rfl ?_
    refine g_getI X fH_X9_82_310 rfl dX9_countWays_4 h (fun v6 h => ?_)
    refine g_icmp_ge (tgt := 98) X dX9_countWays_7 (by decide) h (fun h => ?_) (fun h => ?_)
    · exact g_sub (lv' := []) [] rfl (hK5 t4 h)
    · refine g_aload_n X dX9_countWays_10 0 rfl ?_
      refine g_iload_n X dX9_countWays_11 1 rfl ?_
      refine g_iload_n X dX9_countWays_12 3 rfl ?_
      refine g_iload_n X dX9_countWays_13 2 rfl ?_
      refine g_callOI (rest := []) X (fun u9 h9 => cp_X9_onward l E r N y1 x3 y2 t4 u9 h9) yy_X9_onward yi_X9_onward wdM_RX9_150 ⟨_, _, oH_310⟩ rfl rfl rfl (Nat.le_of_ble_eq_true rfl) dX9_countWays_14 ⟨by decide, by decide⟩ ⟨rfl, rfl⟩ h (fun v8 t7 h => ?_)
      refine g_istore (lv' := [(4, iv v8), (0, .ref (r 310)), (1, iv y1), (2, iv y2), (3, iv x3)]) X dX9_countWays_17 (by decide) rfl ?_
      refine g_iload X dX9_countWays_19 0 rfl ?_
      refine g_join (J := fun jj => ∀ (t9 : St), jj  t9 = some z → gP p l e rm_f_X9_countWays s m args below meth c E A 6 (MQ below ((gqV E (gW E r shH) z) A) args s mc ms A) (gW E r shH) 92 [(0, .ref (r 310)), (1, iv y1), (2, iv y2), (3, iv x3)] [] t9) h (fun  t9 h => ?_) (fun J10 hJ10 h => ?_)
      · refine g_iinc (lv' := [(3, iv (x3 + 1)), (0, .ref (r 310)), (1, iv y1), (2, iv y2)]) X dX9_countWays_92 (k := 3) rfl (by decide) rfl ?_
        refine g_goto (tgt := 2) X dX9_countWays_95 (by decide) ?_
        exact g_sub (lv' := [(0, .ref (r 310)), (1, iv y1), (2, iv y2), (3, iv (x3 + 1))]) [1, 2, 3, 0] rfl (ih (x3 + 1) t9 h)
      refine g_if_lt (tgt := 92) X dX9_countWays_21 (by decide) h (fun h => ?_) (fun h => ?_)
      · exact g_sub (lv' := [(0, .ref (r 310)), (1, iv y1), (2, iv y2), (3, iv x3)]) [1, 2, 3, 4] rfl (hJ10 t7 h)
      · refine g_aload_n X dX9_countWays_24 1 rfl ?_
        refine g_getR X fH_X9_46_310 rfl dX9_countWays_25 ?_
        refine g_getR X fH_X9_154_302 rfl dX9_countWays_28 ?_
        refine g_iload_n X dX9_countWays_31 4 rfl ?_
        refine g_iald X aH_362 dX9_countWays_32 h (fun v11 h => ?_)
        refine g_aload_n X dX9_countWays_33 1 rfl ?_
        refine g_getR X fH_X9_30_310 rfl dX9_countWays_34 ?_
        refine g_iload X dX9_countWays_37 0 rfl ?_
        refine g_iald X aH_435 dX9_countWays_39 h (fun v12 h => ?_)
        refine g_iadd X dX9_countWays_40 ?_
        refine g_istore (lv' := [(5, iv (v11 + v12)), (4, iv v8), (0, .ref (r 310)), (1, iv y1), (2, iv y2), (3, iv x3)]) X dX9_countWays_41 (by decide) rfl ?_
        refine g_aload_n X dX9_countWays_43 2 rfl ?_
        refine g_getR X fH_X9_30_310 rfl dX9_countWays_44 ?_
        refine g_iload_n X dX9_countWays_47 3 rfl ?_
        refine g_aload_n X dX9_countWays_48 2 rfl ?_
        refine g_getR X fH_X9_27_310 rfl dX9_countWays_49 ?_
        refine g_iload_n X dX9_countWays_52 3 rfl ?_
        refine g_lald X aH_434 dX9_countWays_53 h (fun v13 h => ?_)
        refine g_lconst (v := 0) X dX9_countWays_54 (by decide) ?_
        refine g_join (J := fun jj => ∀ (j14 : Int) (t15 : St), jj j14 t15 = some z → gP p l e rm_f_X9_countWays s m args below meth c E A 6 (MQ below ((gqV E (gW E r shH) z) A) args s mc ms A) (gW E r shH) 75 [(0, .ref (r 310)), (1, iv y1), (2, iv y2), (3, iv x3), (4, iv v8)] [iv j14, iv y1, .ref (r 435)] t15) h (fun j14 t15 h => ?_) (fun J16 hJ16 h => ?_)
        · refine g_iast X aH_435 dX9_countWays_75 h (fun t17 h => ?_)
          refine g_aload_n X dX9_countWays_76 0 rfl ?_
          refine g_getR X fH_X9_27_310 rfl dX9_countWays_77 ?_
          refine g_iload_n X dX9_countWays_80 1 rfl ?_
          refine g_dup2 X rfl rfl dX9_countWays_81 ?_
          refine g_lald X aH_434 dX9_countWays_82 h (fun v18 h => ?_)
          refine g_aload_n X dX9_countWays_83 0 rfl ?_
          refine g_getR X fH_X9_27_310 rfl dX9_countWays_84 ?_
          refine g_iload X dX9_countWays_87 4 rfl ?_
          refine g_lald X aH_434 dX9_countWays_89 h (fun v19 h => ?_)
          refine g_ladd X dX9_countWays_90 ?_
          refine g_last X aH_434 dX9_countWays_91 h (fun t20 h => ?_)
          exact g_sub (lv' := [(0, .ref (r 310)), (1, iv y1), (2, iv y2), (3, iv x3)]) [0, 1, 2, 3] rfl (hJ10 t20 h)
        refine g_lcmp_ne (tgt := 64) X dX9_countWays_55 dX9_countWays_56 (by decide) h (fun h => ?_) (fun h => ?_)
        · refine g_aload_n X dX9_countWays_64 2 rfl ?_
          refine g_getR X fH_X9_30_310 rfl dX9_countWays_65 ?_
          refine g_iload_n X dX9_countWays_68 3 rfl ?_
          refine g_iald X aH_435 dX9_countWays_69 h (fun v21 h => ?_)
          refine g_iload X dX9_countWays_70 0 rfl ?_
          refine g_mmin X wdM_RX9_157 (by decide) (Nat.le_of_ble_eq_true rfl) dX9_countWays_72 h (fun h => ?_)
          exact g_sub (lv' := [(0, .ref (r 310)), (1, iv y1), (2, iv y2), (3, iv x3), (4, iv v8)]) [2, 3, 4, 5, 1] rfl (hJ16 (min v21 (v11 + v12)) t7 h)
        · refine g_iload X dX9_countWays_59 0 rfl ?_
          refine g_goto (tgt := 75) X dX9_countWays_61 (by decide) ?_
          exact g_sub (lv' := [(0, .ref (r 310)), (1, iv y1), (2, iv y2), (3, iv x3), (4, iv v8)]) [2, 3, 4, 5, 1] rfl (hJ16 (v11 + v12) t7 h)
set_option maxHeartbeats 4000000 in
set_option maxRecDepth 100000 in
theorem b_f_X9_countWays {p : Program} {l : Launch} {e : Env} {s : State} {m : MethodId} {args : Array Value} {below : List Frame} {meth : Method} {c : Code} {E : cE} {A : Nat → Prop} {r : Nat → Nat} {mc ms : Nat} {z : St} {N : Nat} {a0 : Int} {a1 : Int} {t : St} (X : gX p s m meth c cX9_countWays 6 none yX9_countWays args E A) (h : f_X9_countWays N a0 a1 t = some z) : gP p l e rm_f_X9_countWays s m args below meth c E A 6 (MQ below ((gqV E (gW E r shH) z) A) args s mc ms A) (gW E r shH) 0 [(0, .ref (r 310)), (1, iv a0), (2, iv a1)] [] t := by
  unfold f_X9_countWays at h
  refine g_iconst X dX9_countWays_0 ?_
  refine g_istore_n (lv' := [(3, iv 0), (0, .ref (r 310)), (1, iv a0), (2, iv a1)]) X dX9_countWays_1 rfl (by decide) rfl ?_
  refine g_sub (lv' := [(0, .ref (r 310)), (1, iv a0), (2, iv a1), (3, iv 0)]) [1, 2, 3, 0] rfl (t_f_X9_countWays_L2 X (fun t22 h => ?_) N 0 t h)
  · exact g_vret X h dX9_countWays_98
set_option maxHeartbeats 4000000 in
set_option maxRecDepth 100000 in
theorem cp_X9_countWays (l : Launch) (E : cE) (r : Nat → Nat) (N : Nat) (a0 : Int) (a1 : Int) (t : St) (z : St) (h : f_X9_countWays N a0 a1 t = some z) : cM l E yX9_countWays cX9_countWays 6 none rm_f_X9_countWays [.ref (r 310), iv a0, iv a1] (gW E r shH t) (gqV E (gW E r shH) z) := by
  refine g_of (w := gW E r shH) (by decide) (Nat.le_of_ble_eq_true rfl) ?_
  intro p e s m below meth c A X
  exact g_sub (lv' := [(0, .ref (r 310)), (1, iv a0), (2, iv a1)]) [0, 1, 2] rfl (b_f_X9_countWays X h)
theorem yy_X9_countWays : cY yX9_countWays cX9_countWays 6 none 2 := ⟨wdK_X9_countWays, wdZ_RX9, by decide +kernel⟩
theorem yi_X9_countWays : cYi yX9_countWays := ⟨wdN_X9_countWays, wdS_X9_countWays⟩
theorem dX9_findRows_0 : decode cX9_findRows 0 = .ok (.aload_n 0, 1) := by decide +kernel
theorem dX9_findRows_1 : decode cX9_findRows 1 = .ok (.iload_n 1, 1) := by decide +kernel
theorem dX9_findRows_2 : decode cX9_findRows 2 = .ok (.putfield 39, 3) := by decide +kernel
theorem dX9_findRows_5 : decode cX9_findRows 5 = .ok (.aload_n 0, 1) := by decide +kernel
theorem dX9_findRows_6 : decode cX9_findRows 6 = .ok (.getfield 27, 3) := by decide +kernel
theorem dX9_findRows_9 : decode cX9_findRows 9 = .ok (.lconst 0, 1) := by decide +kernel
theorem dX9_findRows_10 : decode cX9_findRows 10 = .ok (.invokestatic 131, 3) := by decide +kernel
theorem dX9_findRows_13 : decode cX9_findRows 13 = .ok (.aload_n 0, 1) := by decide +kernel
theorem dX9_findRows_14 : decode cX9_findRows 14 = .ok (.getfield 27, 3) := by decide +kernel
theorem dX9_findRows_17 : decode cX9_findRows 17 = .ok (.iload_n 2, 1) := by decide +kernel
theorem dX9_findRows_18 : decode cX9_findRows 18 = .ok (.lconst 1, 1) := by decide +kernel
theorem dX9_findRows_19 : decode cX9_findRows 19 = .ok (.lastore, 1) := by decide +kernel
theorem dX9_findRows_20 : decode cX9_findRows 20 = .ok (.aload_n 0, 1) := by decide +kernel
theorem dX9_findRows_21 : decode cX9_findRows 21 = .ok (.getfield 30, 3) := by decide +kernel
theorem dX9_findRows_24 : decode cX9_findRows 24 = .ok (.iload_n 2, 1) := by decide +kernel
theorem dX9_findRows_25 : decode cX9_findRows 25 = .ok (.iconst 0, 1) := by decide +kernel
theorem dX9_findRows_26 : decode cX9_findRows 26 = .ok (.iastore, 1) := by decide +kernel
theorem dX9_findRows_27 : decode cX9_findRows 27 = .ok (.iload_n 1, 1) := by decide +kernel
theorem dX9_findRows_28 : decode cX9_findRows 28 = .ok (.iconst 1, 1) := by decide +kernel
theorem dX9_findRows_29 : decode cX9_findRows 29 = .ok (.isub, 1) := by decide +kernel
theorem dX9_findRows_30 : decode cX9_findRows 30 = .ok (.istore_n 3, 1) := by decide +kernel
theorem dX9_findRows_31 : decode cX9_findRows 31 = .ok (.iload_n 3, 1) := by decide +kernel
theorem dX9_findRows_32 : decode cX9_findRows 32 = .ok (.ifCond .lt 43, 3) := by decide +kernel
theorem dX9_findRows_35 : decode cX9_findRows 35 = .ok (.aload_n 0, 1) := by decide +kernel
theorem dX9_findRows_36 : decode cX9_findRows 36 = .ok (.getfield 23, 3) := by decide +kernel
theorem dX9_findRows_39 : decode cX9_findRows 39 = .ok (.iload_n 3, 1) := by decide +kernel
theorem dX9_findRows_40 : decode cX9_findRows 40 = .ok (.iaload, 1) := by decide +kernel
theorem dX9_findRows_41 : decode cX9_findRows 41 = .ok (.istore 4, 2) := by decide +kernel
theorem dX9_findRows_43 : decode cX9_findRows 43 = .ok (.iload 4, 2) := by decide +kernel
theorem dX9_findRows_45 : decode cX9_findRows 45 = .ok (.aload_n 0, 1) := by decide +kernel
theorem dX9_findRows_46 : decode cX9_findRows 46 = .ok (.getfield 23, 3) := by decide +kernel
theorem dX9_findRows_49 : decode cX9_findRows 49 = .ok (.iload_n 3, 1) := by decide +kernel
theorem dX9_findRows_50 : decode cX9_findRows 50 = .ok (.iconst 1, 1) := by decide +kernel
theorem dX9_findRows_51 : decode cX9_findRows 51 = .ok (.iadd, 1) := by decide +kernel
theorem dX9_findRows_52 : decode cX9_findRows 52 = .ok (.iaload, 1) := by decide +kernel
theorem dX9_findRows_53 : decode cX9_findRows 53 = .ok (.if_icmp .ge 16, 3) := by decide +kernel
theorem dX9_findRows_56 : decode cX9_findRows 56 = .ok (.aload_n 0, 1) := by decide +kernel
theorem dX9_findRows_57 : decode cX9_findRows 57 = .ok (.iload 4, 2) := by decide +kernel
theorem dX9_findRows_59 : decode cX9_findRows 59 = .ok (.iload_n 3, 1) := by decide +kernel
theorem dX9_findRows_60 : decode cX9_findRows 60 = .ok (.invokevirtual 147, 3) := by decide +kernel
theorem dX9_findRows_63 : decode cX9_findRows 63 = .ok (.iinc 4 1, 3) := by decide +kernel
theorem dX9_findRows_66 : decode cX9_findRows 66 = .ok (.goto (-23), 3) := by decide +kernel
theorem dX9_findRows_69 : decode cX9_findRows 69 = .ok (.iinc 3 (-1), 3) := by decide +kernel
theorem dX9_findRows_72 : decode cX9_findRows 72 = .ok (.goto (-41), 3) := by decide +kernel
theorem dX9_findRows_75 : decode cX9_findRows 75 = .ok (.return_, 1) := by decide +kernel
abbrev rm_f_X9_findRows : Room := { frames := 2, cells := 0, slots := 0, locals := 50 }
def f_X9_findRows_L43 (N : Nat) (K12 : (St → Option (St))) (y9 : Int) : Nat → Int → St → Option (St)
  | 0, _, _ => none
  | n9 + 1, x10, t11 =>
    ixI (y9 + 1) 15 (lt1 (t11.1 433 (y9 + 1).toNat) fun v13 =>
    cmpI x10 v13 (if x10 < v13 then (bdV (f_X9_countWays N x10 y9 t11) fun t14 =>
    f_X9_findRows_L43 N K12 y9 n9 (x10 + 1) t14)
    else (K12 t11)))
def f_X9_findRows_L31 (N : Nat) (K7 : (St → Option (St))) : Nat → Int → St → Option (St)
  | 0, _, _ => none
  | n9 + 1, x5, t6 =>
    cmpI x5 0 (if x5 < 0 then (K7 t6)
    else (ixI x5 15 (lt1 (t6.1 433 x5.toNat) fun v8 =>
    f_X9_findRows_L43 N (fun (t15 : St) => f_X9_findRows_L31 N K7 n9 (x5 + (-1)) t15) x5 N v8 t6)))
def f_X9_findRows (N : Nat) (a0 : Int) (a1 : Int) (t : St) : Option (St) :=
    lt1 (pI t 310 14 a0) fun t1 =>
    bdV (f_J7_fill_d0a16 N 434 2000 (0 : Int64) t1) fun t2 =>
    ixI a1 2000 (lt1 (pL t2 434 a1.toNat (1 : Int64)) fun t3 =>
    ixI a1 2000 (lt1 (pI t3 435 a1.toNat 0) fun t4 =>
    f_X9_findRows_L31 N (fun (t16 : St) => some t16) N (a0 - 1) t4))
set_option maxHeartbeats 4000000 in
set_option maxRecDepth 100000 in
theorem t_f_X9_findRows_L43 {p : Program} {l : Launch} {e : Env} {s : State} {m : MethodId} {args : Array Value} {below : List Frame} {meth : Method} {c : Code} {E : cE} {A : Nat → Prop} {r : Nat → Nat} {mc ms : Nat} {z : St} {N : Nat} {K12 : (St → Option (St))} {y9 : Int} (X : gX p s m meth c cX9_findRows 5 none yX9_findRows args E A) (hK12 : ∀ (t9 : St), K12 t9 = some z → gP p l e rm_f_X9_findRows s m args below meth c E A 5 (MQ below ((gqV E (gW E r shH) z) A) args s mc ms A) (gW E r shH) 69 [(0, .ref (r 310)), (3, iv y9)] [] t9) : ∀ (n9 : Nat) (x10 : Int) (t11 : St), f_X9_findRows_L43 N K12 y9 n9 x10 t11 = some z → gP p l e rm_f_X9_findRows s m args below meth c E A 5 (MQ below ((gqV E (gW E r shH) z) A) args s mc ms A) (gW E r shH) 43 [(0, .ref (r 310)), (3, iv y9), (4, iv x10)] [] t11 := by
  intro n9
  induction n9 with
  | zero => intro x10 t11 h; cases h
  | succ n9 ih =>
    intro x10 t11 h
    unfold f_X9_findRows_L43 at h
    refine g_iload X dX9_findRows_43 2 rfl ?_
    refine g_aload_n X dX9_findRows_45 0 rfl ?_
    refine g_getR X fH_X9_23_310 rfl dX9_findRows_46 ?_
    refine g_iload_n X dX9_findRows_49 1 rfl ?_
    refine g_iconst X dX9_findRows_50 ?_
    refine g_iadd X dX9_findRows_51 ?_
    refine g_iald X aH_433 dX9_findRows_52 h (fun v13 h => ?_)
    refine g_icmp_ge (tgt := 69) X dX9_findRows_53 (by decide) h (fun h => ?_) (fun h => ?_)
    · exact g_sub (lv' := [(0, .ref (r 310)), (3, iv y9)]) [0, 1] rfl (hK12 t11 h)
    · refine g_aload_n X dX9_findRows_56 0 rfl ?_
      refine g_iload X dX9_findRows_57 2 rfl ?_
      refine g_iload_n X dX9_findRows_59 1 rfl ?_
      refine g_callOV (rest := []) X (fun u9 h9 => cp_X9_countWays l E r N x10 y9 t11 u9 h9) yy_X9_countWays yi_X9_countWays wdM_RX9_147 ⟨_, _, oH_310⟩ rfl rfl rfl (Nat.le_of_ble_eq_true rfl) dX9_findRows_60 ⟨by decide, by decide⟩ ⟨rfl, rfl⟩ h (fun t14 h => ?_)
      refine g_iinc (lv' := [(4, iv (x10 + 1)), (0, .ref (r 310)), (3, iv y9)]) X dX9_findRows_63 (k := 2) rfl (by decide) rfl ?_
      refine g_goto (tgt := 43) X dX9_findRows_66 (by decide) ?_
      exact g_sub (lv' := [(0, .ref (r 310)), (3, iv y9), (4, iv (x10 + 1))]) [1, 2, 0] rfl (ih (x10 + 1) t14 h)
set_option maxHeartbeats 4000000 in
set_option maxRecDepth 100000 in
theorem t_f_X9_findRows_L31 {p : Program} {l : Launch} {e : Env} {s : State} {m : MethodId} {args : Array Value} {below : List Frame} {meth : Method} {c : Code} {E : cE} {A : Nat → Prop} {r : Nat → Nat} {mc ms : Nat} {z : St} {N : Nat} {K7 : (St → Option (St))} (X : gX p s m meth c cX9_findRows 5 none yX9_findRows args E A) (hK7 : ∀ (t9 : St), K7 t9 = some z → gP p l e rm_f_X9_findRows s m args below meth c E A 5 (MQ below ((gqV E (gW E r shH) z) A) args s mc ms A) (gW E r shH) 75 [] [] t9) : ∀ (n9 : Nat) (x5 : Int) (t6 : St), f_X9_findRows_L31 N K7 n9 x5 t6 = some z → gP p l e rm_f_X9_findRows s m args below meth c E A 5 (MQ below ((gqV E (gW E r shH) z) A) args s mc ms A) (gW E r shH) 31 [(0, .ref (r 310)), (3, iv x5)] [] t6 := by
  intro n9
  induction n9 with
  | zero => intro x5 t6 h; cases h
  | succ n9 ih =>
    intro x5 t6 h
    unfold f_X9_findRows_L31 at h
    refine g_iload_n X dX9_findRows_31 1 rfl ?_
    refine g_if_lt (tgt := 75) X dX9_findRows_32 (by decide) h (fun h => ?_) (fun h => ?_)
    · exact g_sub (lv' := []) [] rfl (hK7 t6 h)
    · refine g_aload_n X dX9_findRows_35 0 rfl ?_
      refine g_getR X fH_X9_23_310 rfl dX9_findRows_36 ?_
      refine g_iload_n X dX9_findRows_39 1 rfl ?_
      refine g_iald X aH_433 dX9_findRows_40 h (fun v8 h => ?_)
      refine g_istore (lv' := [(4, iv v8), (0, .ref (r 310)), (3, iv x5)]) X dX9_findRows_41 (by decide) rfl ?_
      refine g_sub (lv' := [(0, .ref (r 310)), (3, iv x5), (4, iv v8)]) [1, 2, 0] rfl (t_f_X9_findRows_L43 X (fun t15 h => ?_) N v8 t6 h)
      · refine g_iinc (lv' := [(3, iv (x5 + (-1))), (0, .ref (r 310))]) X dX9_findRows_69 (k := 1) rfl (by decide) rfl ?_
        refine g_goto (tgt := 31) X dX9_findRows_72 (by decide) ?_
        exact g_sub (lv' := [(0, .ref (r 310)), (3, iv (x5 + (-1)))]) [1, 0] rfl (ih (x5 + (-1)) t15 h)
set_option maxHeartbeats 4000000 in
set_option maxRecDepth 100000 in
theorem b_f_X9_findRows {p : Program} {l : Launch} {e : Env} {s : State} {m : MethodId} {args : Array Value} {below : List Frame} {meth : Method} {c : Code} {E : cE} {A : Nat → Prop} {r : Nat → Nat} {mc ms : Nat} {z : St} {N : Nat} {a0 : Int} {a1 : Int} {t : St} (X : gX p s m meth c cX9_findRows 5 none yX9_findRows args E A) (h : f_X9_findRows N a0 a1 t = some z) : gP p l e rm_f_X9_findRows s m args below meth c E A 5 (MQ below ((gqV E (gW E r shH) z) A) args s mc ms A) (gW E r shH) 0 [(0, .ref (r 310)), (1, iv a0), (2, iv a1)] [] t := by
  unfold f_X9_findRows at h
  refine g_aload_n X dX9_findRows_0 0 rfl ?_
  refine g_iload_n X dX9_findRows_1 1 rfl ?_
  refine g_putI X fH_X9_39_310w rfl dX9_findRows_2 h (fun t1 h => ?_)
  refine g_aload_n X dX9_findRows_5 0 rfl ?_
  refine g_getR X fH_X9_27_310 rfl dX9_findRows_6 ?_
  refine g_lconst (v := 0) X dX9_findRows_9 (by decide) ?_
  refine g_callsV (rest := []) X (fun u9 h9 => cp_J7_fill_d0a16 l E r N 434 2000 aH_434 (0 : Int64) t1 u9 h9) yy_J7_fill_d0a16 wdT_J7_fill_d0a16 wdM_RX9_131 rfl rfl (Nat.le_of_ble_eq_true rfl) dX9_findRows_10 ⟨by decide, by decide⟩ ⟨rfl, rfl⟩ h (fun t2 h => ?_)
  refine g_aload_n X dX9_findRows_13 0 rfl ?_
  refine g_getR X fH_X9_27_310 rfl dX9_findRows_14 ?_
  refine g_iload_n X dX9_findRows_17 2 rfl ?_
  refine g_lconst (v := 1) X dX9_findRows_18 (by decide) ?_
  refine g_last X aH_434 dX9_findRows_19 h (fun t3 h => ?_)
  refine g_aload_n X dX9_findRows_20 0 rfl ?_
  refine g_getR X fH_X9_30_310 rfl dX9_findRows_21 ?_
  refine g_iload_n X dX9_findRows_24 2 rfl ?_
  refine g_iconst X dX9_findRows_25 ?_
  refine g_iast X aH_435 dX9_findRows_26 h (fun t4 h => ?_)
  refine g_iload_n X dX9_findRows_27 1 rfl ?_
  refine g_iconst X dX9_findRows_28 ?_
  refine g_isub X dX9_findRows_29 ?_
  refine g_istore_n (lv' := [(3, iv (a0 - 1)), (0, .ref (r 310)), (1, iv a0), (2, iv a1)]) X dX9_findRows_30 rfl (by decide) rfl ?_
  refine g_sub (lv' := [(0, .ref (r 310)), (3, iv (a0 - 1))]) [1, 0] rfl (t_f_X9_findRows_L31 X (fun t16 h => ?_) N (a0 - 1) t4 h)
  · exact g_vret X h dX9_findRows_75
set_option maxHeartbeats 4000000 in
set_option maxRecDepth 100000 in
theorem cp_X9_findRows (l : Launch) (E : cE) (r : Nat → Nat) (N : Nat) (a0 : Int) (a1 : Int) (t : St) (z : St) (h : f_X9_findRows N a0 a1 t = some z) : cM l E yX9_findRows cX9_findRows 5 none rm_f_X9_findRows [.ref (r 310), iv a0, iv a1] (gW E r shH t) (gqV E (gW E r shH) z) := by
  refine g_of (w := gW E r shH) (by decide) (Nat.le_of_ble_eq_true rfl) ?_
  intro p e s m below meth c A X
  exact g_sub (lv' := [(0, .ref (r 310)), (1, iv a0), (2, iv a1)]) [0, 1, 2] rfl (b_f_X9_findRows X h)
theorem yy_X9_findRows : cY yX9_findRows cX9_findRows 5 none 2 := ⟨wdK_X9_findRows, wdZ_RX9, by decide +kernel⟩
theorem yi_X9_findRows : cYi yX9_findRows := ⟨wdN_X9_findRows, wdS_X9_findRows⟩
theorem dX9_unpack_0 : decode cX9_unpack 0 = .ok (.iconst 0, 1) := by decide +kernel
theorem dX9_unpack_1 : decode cX9_unpack 1 = .ok (.istore_n 3, 1) := by decide +kernel
theorem dX9_unpack_2 : decode cX9_unpack 2 = .ok (.iload_n 3, 1) := by decide +kernel
theorem dX9_unpack_3 : decode cX9_unpack 3 = .ok (.iload_n 2, 1) := by decide +kernel
theorem dX9_unpack_4 : decode cX9_unpack 4 = .ok (.if_icmp .ge 67, 3) := by decide +kernel
theorem dX9_unpack_7 : decode cX9_unpack 7 = .ok (.iload_n 3, 1) := by decide +kernel
theorem dX9_unpack_8 : decode cX9_unpack 8 = .ok (.bipush 16, 2) := by decide +kernel
theorem dX9_unpack_10 : decode cX9_unpack 10 = .ok (.if_icmp .ge 61, 3) := by decide +kernel
theorem dX9_unpack_13 : decode cX9_unpack 13 = .ok (.aload_n 0, 1) := by decide +kernel
theorem dX9_unpack_14 : decode cX9_unpack 14 = .ok (.getfield 11, 3) := by decide +kernel
theorem dX9_unpack_17 : decode cX9_unpack 17 = .ok (.iconst 3, 1) := by decide +kernel
theorem dX9_unpack_18 : decode cX9_unpack 18 = .ok (.iload_n 1, 1) := by decide +kernel
theorem dX9_unpack_19 : decode cX9_unpack 19 = .ok (.imul, 1) := by decide +kernel
theorem dX9_unpack_20 : decode cX9_unpack 20 = .ok (.iload_n 3, 1) := by decide +kernel
theorem dX9_unpack_21 : decode cX9_unpack 21 = .ok (.bipush 6, 2) := by decide +kernel
theorem dX9_unpack_23 : decode cX9_unpack 23 = .ok (.idiv, 1) := by decide +kernel
theorem dX9_unpack_24 : decode cX9_unpack 24 = .ok (.iadd, 1) := by decide +kernel
theorem dX9_unpack_25 : decode cX9_unpack 25 = .ok (.laload, 1) := by decide +kernel
theorem dX9_unpack_26 : decode cX9_unpack 26 = .ok (.lstore 4, 2) := by decide +kernel
theorem dX9_unpack_28 : decode cX9_unpack 28 = .ok (.lload 4, 2) := by decide +kernel
theorem dX9_unpack_30 : decode cX9_unpack 30 = .ok (.bipush 10, 2) := by decide +kernel
theorem dX9_unpack_32 : decode cX9_unpack 32 = .ok (.iload_n 3, 1) := by decide +kernel
theorem dX9_unpack_33 : decode cX9_unpack 33 = .ok (.bipush 6, 2) := by decide +kernel
theorem dX9_unpack_35 : decode cX9_unpack 35 = .ok (.irem, 1) := by decide +kernel
theorem dX9_unpack_36 : decode cX9_unpack 36 = .ok (.imul, 1) := by decide +kernel
theorem dX9_unpack_37 : decode cX9_unpack 37 = .ok (.lushr, 1) := by decide +kernel
theorem dX9_unpack_38 : decode cX9_unpack 38 = .ok (.l2i, 1) := by decide +kernel
theorem dX9_unpack_39 : decode cX9_unpack 39 = .ok (.sipush 1023, 3) := by decide +kernel
theorem dX9_unpack_42 : decode cX9_unpack 42 = .ok (.iand, 1) := by decide +kernel
theorem dX9_unpack_43 : decode cX9_unpack 43 = .ok (.istore 6, 2) := by decide +kernel
theorem dX9_unpack_45 : decode cX9_unpack 45 = .ok (.aload_n 0, 1) := by decide +kernel
theorem dX9_unpack_46 : decode cX9_unpack 46 = .ok (.getfield 36, 3) := by decide +kernel
theorem dX9_unpack_49 : decode cX9_unpack 49 = .ok (.iload_n 3, 1) := by decide +kernel
theorem dX9_unpack_50 : decode cX9_unpack 50 = .ok (.iload 6, 2) := by decide +kernel
theorem dX9_unpack_52 : decode cX9_unpack 52 = .ok (.bipush 63, 2) := by decide +kernel
theorem dX9_unpack_54 : decode cX9_unpack 54 = .ok (.iand, 1) := by decide +kernel
theorem dX9_unpack_55 : decode cX9_unpack 55 = .ok (.iload 6, 2) := by decide +kernel
theorem dX9_unpack_57 : decode cX9_unpack 57 = .ok (.sipush 960, 3) := by decide +kernel
theorem dX9_unpack_60 : decode cX9_unpack 60 = .ok (.iand, 1) := by decide +kernel
theorem dX9_unpack_61 : decode cX9_unpack 61 = .ok (.iconst 2, 1) := by decide +kernel
theorem dX9_unpack_62 : decode cX9_unpack 62 = .ok (.ishl, 1) := by decide +kernel
theorem dX9_unpack_63 : decode cX9_unpack 63 = .ok (.ior, 1) := by decide +kernel
theorem dX9_unpack_64 : decode cX9_unpack 64 = .ok (.iastore, 1) := by decide +kernel
theorem dX9_unpack_65 : decode cX9_unpack 65 = .ok (.iinc 3 1, 3) := by decide +kernel
theorem dX9_unpack_68 : decode cX9_unpack 68 = .ok (.goto (-66), 3) := by decide +kernel
theorem dX9_unpack_71 : decode cX9_unpack 71 = .ok (.return_, 1) := by decide +kernel
abbrev rm_f_X9_unpack : Room := { frames := 0, cells := 0, slots := 0, locals := 0 }
def f_X9_unpack_L2 (K5 : (St → Option (St))) (y1 : Int) (y2 : Int) : Nat → Int → St → Option (St)
  | 0, _, _ => none
  | n9 + 1, x3, t4 =>
    cmpI x3 y2 (if x3 < y2 then (cmpI x3 16 (if x3 < 16 then (dvI x3 6 (
    ixI ((3 * y1) + (x3 / 6)) 6000 (lt1 (t4.2 430 ((3 * y1) + (x3 / 6)).toNat) fun v6 =>
    dvI x3 6 (
    ixI x3 16 (lt1 (pI t4 437 x3.toNat (iorZ ((((ushrL v6 (10 * (x3 % 6))).toInt) % 1024) % 64) ((iandZ (((ushrL v6 (10 * (x3 % 6))).toInt) % 1024) 960) * 4))) fun t7 =>
    f_X9_unpack_L2 K5 y1 y2 n9 (x3 + 1) t7)))))
    else (K5 t4)))
    else (K5 t4))
def f_X9_unpack (N : Nat) (a0 : Int) (a1 : Int) (t : St) : Option (St) :=
    f_X9_unpack_L2 (fun (t8 : St) => some t8) a0 a1 N 0 t
set_option maxHeartbeats 4000000 in
set_option maxRecDepth 100000 in
theorem t_f_X9_unpack_L2 {p : Program} {l : Launch} {e : Env} {s : State} {m : MethodId} {args : Array Value} {below : List Frame} {meth : Method} {c : Code} {E : cE} {A : Nat → Prop} {r : Nat → Nat} {mc ms : Nat} {z : St} {K5 : (St → Option (St))} {y1 : Int} {y2 : Int} (X : gX p s m meth c cX9_unpack 7 none yX9_unpack args E A) (hK5 : ∀ (t9 : St), K5 t9 = some z → gP p l e rm_f_X9_unpack s m args below meth c E A 7 (MQ below ((gqV E (gW E r shH) z) A) args s mc ms A) (gW E r shH) 71 [] [] t9) : ∀ (n9 : Nat) (x3 : Int) (t4 : St), f_X9_unpack_L2 K5 y1 y2 n9 x3 t4 = some z → gP p l e rm_f_X9_unpack s m args below meth c E A 7 (MQ below ((gqV E (gW E r shH) z) A) args s mc ms A) (gW E r shH) 2 [(0, .ref (r 310)), (1, iv y1), (2, iv y2), (3, iv x3)] [] t4 := by
  intro n9
  induction n9 with
  | zero => intro x3 t4 h; cases h
  | succ n9 ih =>
    intro x3 t4 h
    unfold f_X9_unpack_L2 at h
    refine g_iload_n X dX9_unpack_2 3 rfl ?_
    refine g_iload_n X dX9_unpack_3 2 rfl ?_
    refine g_icmp_ge (tgt := 71) X dX9_unpack_4 (by decide) h (fun h => ?_) (fun h => ?_)
    · exact g_sub (lv' := []) [] rfl (hK5 t4 h)
    · refine g_iload_n X dX9_unpack_7 3 rfl ?_
      refine g_bipush X dX9_unpack_8 (by decide) ?_
      refine g_icmp_ge (tgt := 71) X dX9_unpack_10 (by decide) h (fun h => ?_) (fun h => ?_)
      · exact g_sub (lv' := []) [] rfl (hK5 t4 h)
      · refine g_aload_n X dX9_unpack_13 0 rfl ?_
        refine g_getR X fH_X9_11_310 rfl dX9_unpack_14 ?_
        refine g_iconst X dX9_unpack_17 ?_
        refine g_iload_n X dX9_unpack_18 1 rfl ?_
        refine g_imul X dX9_unpack_19 ?_
        refine g_iload_n X dX9_unpack_20 3 rfl ?_
        refine g_bipush X dX9_unpack_21 (by decide) ?_
        refine g_idiv X dX9_unpack_23 h (fun h => ?_)
        refine g_iadd X dX9_unpack_24 ?_
        refine g_lald X aH_430 dX9_unpack_25 h (fun v6 h => ?_)
        refine g_lstore (lv' := [(4, .long v6), (0, .ref (r 310)), (1, iv y1), (2, iv y2), (3, iv x3)]) X dX9_unpack_26 (by decide) rfl ?_
        refine g_lload X dX9_unpack_28 0 rfl ?_
        refine g_bipush X dX9_unpack_30 (by decide) ?_
        refine g_iload_n X dX9_unpack_32 4 rfl ?_
        refine g_bipush X dX9_unpack_33 (by decide) ?_
        refine g_irem X dX9_unpack_35 h (fun h => ?_)
        refine g_imul X dX9_unpack_36 ?_
        refine g_lushr X dX9_unpack_37 ?_
        refine g_l2i X dX9_unpack_38 ?_
        refine g_sipush X dX9_unpack_39 (by decide) ?_
        refine g_mask X 10 (by decide) (M := 1024) (by decide) (by decide) dX9_unpack_42 ?_
        refine g_istore (lv' := [(6, iv (((ushrL v6 (10 * (x3 % 6))).toInt) % 1024)), (4, .long v6), (0, .ref (r 310)), (1, iv y1), (2, iv y2), (3, iv x3)]) X dX9_unpack_43 (by decide) rfl ?_
        refine g_aload_n X dX9_unpack_45 2 rfl ?_
        refine g_getR X fH_X9_36_310 rfl dX9_unpack_46 ?_
        refine g_iload_n X dX9_unpack_49 5 rfl ?_
        refine g_iload X dX9_unpack_50 0 rfl ?_
        refine g_bipush X dX9_unpack_52 (by decide) ?_
        refine g_mask X 6 (by decide) (M := 64) (by decide) (by decide) dX9_unpack_54 ?_
        refine g_iload X dX9_unpack_55 0 rfl ?_
        refine g_sipush X dX9_unpack_57 (by decide) ?_
        refine g_iand X dX9_unpack_60 ?_
        refine g_iconst X dX9_unpack_61 ?_
        refine g_shl X 2 (by decide) (M := 4) (by decide) (by decide) dX9_unpack_62 ?_
        refine g_ior X dX9_unpack_63 ?_
        refine g_iast X aH_437 dX9_unpack_64 h (fun t7 h => ?_)
        refine g_iinc (lv' := [(3, iv (x3 + 1)), (6, iv (((ushrL v6 (10 * (x3 % 6))).toInt) % 1024)), (4, .long v6), (0, .ref (r 310)), (1, iv y1), (2, iv y2)]) X dX9_unpack_65 (k := 5) rfl (by decide) rfl ?_
        refine g_goto (tgt := 2) X dX9_unpack_68 (by decide) ?_
        exact g_sub (lv' := [(0, .ref (r 310)), (1, iv y1), (2, iv y2), (3, iv (x3 + 1))]) [3, 4, 5, 0] rfl (ih (x3 + 1) t7 h)
set_option maxHeartbeats 4000000 in
set_option maxRecDepth 100000 in
theorem b_f_X9_unpack {p : Program} {l : Launch} {e : Env} {s : State} {m : MethodId} {args : Array Value} {below : List Frame} {meth : Method} {c : Code} {E : cE} {A : Nat → Prop} {r : Nat → Nat} {mc ms : Nat} {z : St} {N : Nat} {a0 : Int} {a1 : Int} {t : St} (X : gX p s m meth c cX9_unpack 7 none yX9_unpack args E A) (h : f_X9_unpack N a0 a1 t = some z) : gP p l e rm_f_X9_unpack s m args below meth c E A 7 (MQ below ((gqV E (gW E r shH) z) A) args s mc ms A) (gW E r shH) 0 [(0, .ref (r 310)), (1, iv a0), (2, iv a1)] [] t := by
  unfold f_X9_unpack at h
  refine g_iconst X dX9_unpack_0 ?_
  refine g_istore_n (lv' := [(3, iv 0), (0, .ref (r 310)), (1, iv a0), (2, iv a1)]) X dX9_unpack_1 rfl (by decide) rfl ?_
  refine g_sub (lv' := [(0, .ref (r 310)), (1, iv a0), (2, iv a1), (3, iv 0)]) [1, 2, 3, 0] rfl (t_f_X9_unpack_L2 X (fun t8 h => ?_) N 0 t h)
  · exact g_vret X h dX9_unpack_71
set_option maxHeartbeats 4000000 in
set_option maxRecDepth 100000 in
theorem cp_X9_unpack (l : Launch) (E : cE) (r : Nat → Nat) (N : Nat) (a0 : Int) (a1 : Int) (t : St) (z : St) (h : f_X9_unpack N a0 a1 t = some z) : cM l E yX9_unpack cX9_unpack 7 none rm_f_X9_unpack [.ref (r 310), iv a0, iv a1] (gW E r shH t) (gqV E (gW E r shH) z) := by
  refine g_of (w := gW E r shH) (by decide) (Nat.le_of_ble_eq_true rfl) ?_
  intro p e s m below meth c A X
  exact g_sub (lv' := [(0, .ref (r 310)), (1, iv a0), (2, iv a1)]) [0, 1, 2] rfl (b_f_X9_unpack X h)
theorem yy_X9_unpack : cY yX9_unpack cX9_unpack 7 none 2 := ⟨wdK_X9_unpack, wdZ_RX9, by decide +kernel⟩
theorem yi_X9_unpack : cYi yX9_unpack := ⟨wdN_X9_unpack, wdS_X9_unpack⟩
theorem dX9_widen_0 : decode cX9_widen 0 = .ok (.aload_n 0, 1) := by decide +kernel
theorem dX9_widen_1 : decode cX9_widen 1 = .ok (.getfield 23, 3) := by decide +kernel
theorem dX9_widen_4 : decode cX9_widen 4 = .ok (.iload_n 1, 1) := by decide +kernel
theorem dX9_widen_5 : decode cX9_widen 5 = .ok (.iaload, 1) := by decide +kernel
theorem dX9_widen_6 : decode cX9_widen 6 = .ok (.istore_n 3, 1) := by decide +kernel
theorem dX9_widen_7 : decode cX9_widen 7 = .ok (.iload_n 3, 1) := by decide +kernel
theorem dX9_widen_8 : decode cX9_widen 8 = .ok (.aload_n 0, 1) := by decide +kernel
theorem dX9_widen_9 : decode cX9_widen 9 = .ok (.getfield 23, 3) := by decide +kernel
theorem dX9_widen_12 : decode cX9_widen 12 = .ok (.iload_n 1, 1) := by decide +kernel
theorem dX9_widen_13 : decode cX9_widen 13 = .ok (.iconst 1, 1) := by decide +kernel
theorem dX9_widen_14 : decode cX9_widen 14 = .ok (.iadd, 1) := by decide +kernel
theorem dX9_widen_15 : decode cX9_widen 15 = .ok (.iaload, 1) := by decide +kernel
theorem dX9_widen_16 : decode cX9_widen 16 = .ok (.if_icmp .ge 119, 3) := by decide +kernel
theorem dX9_widen_19 : decode cX9_widen 19 = .ok (.aload_n 0, 1) := by decide +kernel
theorem dX9_widen_20 : decode cX9_widen 20 = .ok (.iload_n 3, 1) := by decide +kernel
theorem dX9_widen_21 : decode cX9_widen 21 = .ok (.iload_n 2, 1) := by decide +kernel
theorem dX9_widen_22 : decode cX9_widen 22 = .ok (.invokevirtual 111, 3) := by decide +kernel
theorem dX9_widen_25 : decode cX9_widen 25 = .ok (.aload_n 0, 1) := by decide +kernel
theorem dX9_widen_26 : decode cX9_widen 26 = .ok (.getfield 54, 3) := by decide +kernel
theorem dX9_widen_29 : decode cX9_widen 29 = .ok (.aload_n 0, 1) := by decide +kernel
theorem dX9_widen_30 : decode cX9_widen 30 = .ok (.getfield 36, 3) := by decide +kernel
theorem dX9_widen_33 : decode cX9_widen 33 = .ok (.iload_n 2, 1) := by decide +kernel
theorem dX9_widen_34 : decode cX9_widen 34 = .ok (.invokevirtual 114, 3) := by decide +kernel
theorem dX9_widen_37 : decode cX9_widen 37 = .ok (.iconst 0, 1) := by decide +kernel
theorem dX9_widen_38 : decode cX9_widen 38 = .ok (.istore 4, 2) := by decide +kernel
theorem dX9_widen_40 : decode cX9_widen 40 = .ok (.iload 4, 2) := by decide +kernel
theorem dX9_widen_42 : decode cX9_widen 42 = .ok (.aload_n 0, 1) := by decide +kernel
theorem dX9_widen_43 : decode cX9_widen 43 = .ok (.getfield 82, 3) := by decide +kernel
theorem dX9_widen_46 : decode cX9_widen 46 = .ok (.if_icmp .ge 83, 3) := by decide +kernel
theorem dX9_widen_49 : decode cX9_widen 49 = .ok (.iconst (-1), 1) := by decide +kernel
theorem dX9_widen_50 : decode cX9_widen 50 = .ok (.istore 5, 2) := by decide +kernel
theorem dX9_widen_52 : decode cX9_widen 52 = .ok (.aload_n 0, 1) := by decide +kernel
theorem dX9_widen_53 : decode cX9_widen 53 = .ok (.getfield 50, 3) := by decide +kernel
theorem dX9_widen_56 : decode cX9_widen 56 = .ok (.aload_n 0, 1) := by decide +kernel
theorem dX9_widen_57 : decode cX9_widen 57 = .ok (.getfield 46, 3) := by decide +kernel
theorem dX9_widen_60 : decode cX9_widen 60 = .ok (.getfield 117, 3) := by decide +kernel
theorem dX9_widen_63 : decode cX9_widen 63 = .ok (.iload 4, 2) := by decide +kernel
theorem dX9_widen_65 : decode cX9_widen 65 = .ok (.iaload, 1) := by decide +kernel
theorem dX9_widen_66 : decode cX9_widen 66 = .ok (.aload_n 0, 1) := by decide +kernel
theorem dX9_widen_67 : decode cX9_widen 67 = .ok (.getfield 54, 3) := by decide +kernel
theorem dX9_widen_70 : decode cX9_widen 70 = .ok (.aload_n 0, 1) := by decide +kernel
theorem dX9_widen_71 : decode cX9_widen 71 = .ok (.getfield 54, 3) := by decide +kernel
theorem dX9_widen_74 : decode cX9_widen 74 = .ok (.invokevirtual 120, 3) := by decide +kernel
theorem dX9_widen_77 : decode cX9_widen 77 = .ok (.invokevirtual 124, 3) := by decide +kernel
theorem dX9_widen_80 : decode cX9_widen 80 = .ok (.ifCond .ne 28, 3) := by decide +kernel
theorem dX9_widen_83 : decode cX9_widen 83 = .ok (.aload_n 0, 1) := by decide +kernel
theorem dX9_widen_84 : decode cX9_widen 84 = .ok (.aload_n 0, 1) := by decide +kernel
theorem dX9_widen_85 : decode cX9_widen 85 = .ok (.getfield 50, 3) := by decide +kernel
theorem dX9_widen_88 : decode cX9_widen 88 = .ok (.getfield 130, 3) := by decide +kernel
theorem dX9_widen_91 : decode cX9_widen 91 = .ok (.iload_n 2, 1) := by decide +kernel
theorem dX9_widen_92 : decode cX9_widen 92 = .ok (.invokevirtual 92, 3) := by decide +kernel
theorem dX9_widen_95 : decode cX9_widen 95 = .ok (.aload_n 0, 1) := by decide +kernel
theorem dX9_widen_96 : decode cX9_widen 96 = .ok (.invokevirtual 96, 3) := by decide +kernel
theorem dX9_widen_99 : decode cX9_widen 99 = .ok (.istore 5, 2) := by decide +kernel
theorem dX9_widen_101 : decode cX9_widen 101 = .ok (.iload 5, 2) := by decide +kernel
theorem dX9_widen_103 : decode cX9_widen 103 = .ok (.ifCond .ge 5, 3) := by decide +kernel
theorem dX9_widen_106 : decode cX9_widen 106 = .ok (.iconst 0, 1) := by decide +kernel
theorem dX9_widen_107 : decode cX9_widen 107 = .ok (.ireturn, 1) := by decide +kernel
theorem dX9_widen_108 : decode cX9_widen 108 = .ok (.aload_n 0, 1) := by decide +kernel
theorem dX9_widen_109 : decode cX9_widen 109 = .ok (.getfield 20, 3) := by decide +kernel
theorem dX9_widen_112 : decode cX9_widen 112 = .ok (.iload_n 3, 1) := by decide +kernel
theorem dX9_widen_113 : decode cX9_widen 113 = .ok (.bipush 32, 2) := by decide +kernel
theorem dX9_widen_115 : decode cX9_widen 115 = .ok (.imul, 1) := by decide +kernel
theorem dX9_widen_116 : decode cX9_widen 116 = .ok (.iload 4, 2) := by decide +kernel
theorem dX9_widen_118 : decode cX9_widen 118 = .ok (.iadd, 1) := by decide +kernel
theorem dX9_widen_119 : decode cX9_widen 119 = .ok (.iload 5, 2) := by decide +kernel
theorem dX9_widen_121 : decode cX9_widen 121 = .ok (.i2s, 1) := by decide +kernel
theorem dX9_widen_122 : decode cX9_widen 122 = .ok (.sastore, 1) := by decide +kernel
theorem dX9_widen_123 : decode cX9_widen 123 = .ok (.iinc 4 1, 3) := by decide +kernel
theorem dX9_widen_126 : decode cX9_widen 126 = .ok (.goto (-86), 3) := by decide +kernel
theorem dX9_widen_129 : decode cX9_widen 129 = .ok (.iinc 3 1, 3) := by decide +kernel
theorem dX9_widen_132 : decode cX9_widen 132 = .ok (.goto (-125), 3) := by decide +kernel
theorem dX9_widen_135 : decode cX9_widen 135 = .ok (.aload_n 0, 1) := by decide +kernel
theorem dX9_widen_136 : decode cX9_widen 136 = .ok (.getfield 23, 3) := by decide +kernel
theorem dX9_widen_139 : decode cX9_widen 139 = .ok (.iload_n 1, 1) := by decide +kernel
theorem dX9_widen_140 : decode cX9_widen 140 = .ok (.iconst 2, 1) := by decide +kernel
theorem dX9_widen_141 : decode cX9_widen 141 = .ok (.iadd, 1) := by decide +kernel
theorem dX9_widen_142 : decode cX9_widen 142 = .ok (.aload_n 0, 1) := by decide +kernel
theorem dX9_widen_143 : decode cX9_widen 143 = .ok (.getfield 74, 3) := by decide +kernel
theorem dX9_widen_146 : decode cX9_widen 146 = .ok (.iastore, 1) := by decide +kernel
theorem dX9_widen_147 : decode cX9_widen 147 = .ok (.iconst 1, 1) := by decide +kernel
theorem dX9_widen_148 : decode cX9_widen 148 = .ok (.ireturn, 1) := by decide +kernel
abbrev rm_f_X9_widen : Room := { frames := 5, cells := 0, slots := 0, locals := 152 }
def f_X9_widen_L40 (N : Nat) (K15 : (St → Option (Int × St))) (y11 : Int) (y12 : Int) : Nat → Int → St → Option (Int × St)
  | 0, _, _ => none
  | n9 + 1, x13, t14 =>
    lt1 (t14.1 310 12) fun v16 =>
    cmpI x13 v16 (if x13 < v16 then (ixI x13 32 (lt1 (t14.1 361 x13.toNat) fun v17 =>
    bdL (f_X3_everybody N 1 t14) fun v19 t18 =>
    bdI (f_X1_attempt N 1 v17 v19 t18) fun v21 t20 =>
    jn1 (fun (j22 : Int) (t23 : St) => ixI ((y12 * 32) + x13) 64000 (lt1 (pI t23 432 ((y12 * 32) + x13).toNat (b16 (b16 j22))) fun t25 =>
    f_X9_widen_L40 N K15 y11 y12 n9 (x13 + 1) t25)) fun J24 =>
    cmpI v21 0 (if v21 = 0 then (bdV (f_X9_pack N 376 64 y11 t20) fun t26 =>
    bdI (f_X9_meet N t26) fun v28 t27 =>
    cmpI v28 0 (if v28 < 0 then (boI 0 (some (0, t27)))
    else (J24 v28 t27)))
    else (J24 (-1) t20))))
    else (K15 t14))
def f_X9_widen_L7 (N : Nat) (K6 : (St → Option (Int × St))) (y2 : Int) (y3 : Int) : Nat → Int → St → Option (Int × St)
  | 0, _, _ => none
  | n9 + 1, x4, t5 =>
    ixI (y2 + 1) 15 (lt1 (t5.1 433 (y2 + 1).toNat) fun v7 =>
    cmpI x4 v7 (if x4 < v7 then (bdV (f_X9_unpack N x4 y3 t5) fun t8 =>
    bdV (f_X3_place N 1 437 16 y3 t8) fun t9 =>
    f_X9_widen_L40 N (fun (t29 : St) => f_X9_widen_L7 N K6 y2 y3 n9 (x4 + 1) t29) y3 x4 N 0 t9)
    else (K6 t5)))
def f_X9_widen (N : Nat) (a0 : Int) (a1 : Int) (t : St) : Option (Int × St) :=
    ixI a0 15 (lt1 (t.1 433 a0.toNat) fun v1 =>
    f_X9_widen_L7 N (fun (t30 : St) => lt1 (t30.1 310 11) fun v31 =>
    ixI (a0 + 2) 15 (lt1 (pI t30 433 (a0 + 2).toNat v31) fun t32 =>
    boI 1 (some (1, t32)))) a0 a1 N v1 t)
set_option maxHeartbeats 4000000 in
set_option maxRecDepth 100000 in
theorem t_f_X9_widen_L40 {p : Program} {l : Launch} {e : Env} {s : State} {m : MethodId} {args : Array Value} {below : List Frame} {meth : Method} {c : Code} {E : cE} {A : Nat → Prop} {r : Nat → Nat} {mc ms : Nat} {z : Int × St} {N : Nat} {K15 : (St → Option (Int × St))} {y10 : Int} {y11 : Int} {y12 : Int} (X : gX p s m meth c cX9_widen 6 (some .boolean) yX9_widen args E A) (hK15 : ∀ (t9 : St), K15 t9 = some z → gP p l e rm_f_X9_widen s m args below meth c E A 6 (MQ below ((gqI E (gW E r shH) z) A) args s mc ms A) (gW E r shH) 129 [(0, .ref (r 310)), (1, iv y10), (2, iv y11), (3, iv y12)] [] t9) : ∀ (n9 : Nat) (x13 : Int) (t14 : St), f_X9_widen_L40 N K15 y11 y12 n9 x13 t14 = some z → gP p l e rm_f_X9_widen s m args below meth c E A 6 (MQ below ((gqI E (gW E r shH) z) A) args s mc ms A) (gW E r shH) 40 [(0, .ref (r 310)), (1, iv y10), (2, iv y11), (3, iv y12), (4, iv x13)] [] t14 := by
  intro n9
  induction n9 with
  | zero => intro x13 t14 h; cases h
  | succ n9 ih =>
    intro x13 t14 h
    unfold f_X9_widen_L40 at h
    refine g_iload X dX9_widen_40 4 rfl ?_
    refine g_aload_n X dX9_widen_42 0 rfl ?_
    refine g_getI X fH_X9_82_310 rfl dX9_widen_43 h (fun v16 h => ?_)
    refine g_icmp_ge (tgt := 129) X dX9_widen_46 (by decide) h (fun h => ?_) (fun h => ?_)
    · exact g_sub (lv' := [(0, .ref (r 310)), (1, iv y10), (2, iv y11), (3, iv y12)]) [0, 1, 2, 3] rfl (hK15 t14 h)
    · refine g_iconst X dX9_widen_49 ?_
      refine g_istore (lv' := [(5, iv (-1)), (0, .ref (r 310)), (1, iv y10), (2, iv y11), (3, iv y12), (4, iv x13)]) X dX9_widen_50 (by decide) rfl ?_
      refine g_aload_n X dX9_widen_52 1 rfl ?_
      refine g_getR X fH_X9_50_310 rfl dX9_widen_53 ?_
      refine g_aload_n X dX9_widen_56 1 rfl ?_
      refine g_getR X fH_X9_46_310 rfl dX9_widen_57 ?_
      refine g_getR X fH_X9_117_302 rfl dX9_widen_60 ?_
      refine g_iload X dX9_widen_63 5 rfl ?_
      refine g_iald X aH_361 dX9_widen_65 h (fun v17 h => ?_)
      refine g_aload_n X dX9_widen_66 1 rfl ?_
      refine g_getR X fH_X9_54_310 rfl dX9_widen_67 ?_
      refine g_aload_n X dX9_widen_70 1 rfl ?_
      refine g_getR X fH_X9_54_310 rfl dX9_widen_71 ?_
      refine g_callOL (rest := [.ref (r (305 + 1)), iv v17, .ref (r 304)]) X (fun u9 h9 => cp_X3_everybody l E r N 1 (by decide) t14 u9 h9) yy_X3_everybody yi_X3_everybody wdM_RX9_120 (oX3 (o := 1) (by decide)) rfl rfl rfl (Nat.le_of_ble_eq_true rfl) dX9_widen_74 ⟨by decide, by decide⟩ ⟨rfl, rfl⟩ h (fun v19 t18 h => ?_)
      refine g_callOI (rest := []) X (fun u9 h9 => cp_X1_attempt l E r N 1 (by decide) v17 v19 t18 u9 h9) yy_X1_attempt yi_X1_attempt wdM_RX9_124 ⟨_, _, oH_304⟩ rfl rfl rfl (Nat.le_of_ble_eq_true rfl) dX9_widen_77 ⟨by decide, by decide⟩ ⟨rfl, rfl⟩ h (fun v21 t20 h => ?_)
      refine g_join (J := fun jj => ∀ (j22 : Int) (t23 : St), jj j22 t23 = some z → gP p l e rm_f_X9_widen s m args below meth c E A 6 (MQ below ((gqI E (gW E r shH) z) A) args s mc ms A) (gW E r shH) 108 [(0, .ref (r 310)), (1, iv y10), (2, iv y11), (3, iv y12), (4, iv x13), (5, iv j22)] [] t23) h (fun j22 t23 h => ?_) (fun J24 hJ24 h => ?_)
      · refine g_aload_n X dX9_widen_108 0 rfl ?_
        refine g_getR X fH_X9_20_310 rfl dX9_widen_109 ?_
        refine g_iload_n X dX9_widen_112 3 rfl ?_
        refine g_bipush X dX9_widen_113 (by decide) ?_
        refine g_imul X dX9_widen_115 ?_
        refine g_iload X dX9_widen_116 4 rfl ?_
        refine g_iadd X dX9_widen_118 ?_
        refine g_iload X dX9_widen_119 5 rfl ?_
        refine g_i2s X dX9_widen_121 ?_
        refine g_sast X aH_432 dX9_widen_122 h (fun t25 h => ?_)
        refine g_iinc (lv' := [(4, iv (x13 + 1)), (0, .ref (r 310)), (1, iv y10), (2, iv y11), (3, iv y12), (5, iv j22)]) X dX9_widen_123 (k := 4) rfl (by decide) rfl ?_
        refine g_goto (tgt := 40) X dX9_widen_126 (by decide) ?_
        exact g_sub (lv' := [(0, .ref (r 310)), (1, iv y10), (2, iv y11), (3, iv y12), (4, iv (x13 + 1))]) [1, 2, 3, 4, 0] rfl (ih (x13 + 1) t25 h)
      refine g_if_ne (tgt := 108) X dX9_widen_80 (by decide) h (fun h => ?_) (fun h => ?_)
      · exact g_sub (lv' := [(0, .ref (r 310)), (1, iv y10), (2, iv y11), (3, iv y12), (4, iv x13), (5, iv (-1))]) [1, 2, 3, 4, 5, 0] rfl (hJ24 (-1) t20 h)
      · refine g_aload_n X dX9_widen_83 1 rfl ?_
        refine g_aload_n X dX9_widen_84 1 rfl ?_
        refine g_getR X fH_X9_50_310 rfl dX9_widen_85 ?_
        refine g_getR X fH_X9_130_304 rfl dX9_widen_88 ?_
        refine g_iload_n X dX9_widen_91 3 rfl ?_
        refine g_callOV (rest := []) X (fun u9 h9 => cp_X9_pack l E r N 376 64 aH_376 y11 t20 u9 h9) yy_X9_pack yi_X9_pack wdM_RX9_92 ⟨_, _, oH_310⟩ rfl rfl rfl (Nat.le_of_ble_eq_true rfl) dX9_widen_92 ⟨by decide, by decide⟩ ⟨rfl, rfl⟩ h (fun t26 h => ?_)
        refine g_aload_n X dX9_widen_95 1 rfl ?_
        refine g_callOI (rest := []) X (fun u9 h9 => cp_X9_meet l E r N t26 u9 h9) yy_X9_meet yi_X9_meet wdM_RX9_96 ⟨_, _, oH_310⟩ rfl rfl rfl (Nat.le_of_ble_eq_true rfl) dX9_widen_96 ⟨by decide, by decide⟩ ⟨rfl, rfl⟩ h (fun v28 t27 h => ?_)
        refine g_istore (lv' := [(5, iv v28), (0, .ref (r 310)), (1, iv y10), (2, iv y11), (3, iv y12), (4, iv x13)]) X dX9_widen_99 (by decide) rfl ?_
        refine g_iload X dX9_widen_101 0 rfl ?_
        refine g_if_ge (tgt := 108) X dX9_widen_103 (by decide) h (fun h => ?_) (fun h => ?_)
        · exact g_sub (lv' := [(0, .ref (r 310)), (1, iv y10), (2, iv y11), (3, iv y12), (4, iv x13), (5, iv v28)]) [1, 2, 3, 4, 5, 0] rfl (hJ24 v28 t27 h)
        · refine g_iconst X dX9_widen_106 ?_
          exact g_zret X h dX9_widen_107
set_option maxHeartbeats 4000000 in
set_option maxRecDepth 100000 in
theorem t_f_X9_widen_L7 {p : Program} {l : Launch} {e : Env} {s : State} {m : MethodId} {args : Array Value} {below : List Frame} {meth : Method} {c : Code} {E : cE} {A : Nat → Prop} {r : Nat → Nat} {mc ms : Nat} {z : Int × St} {N : Nat} {K6 : (St → Option (Int × St))} {y2 : Int} {y3 : Int} (X : gX p s m meth c cX9_widen 6 (some .boolean) yX9_widen args E A) (hK6 : ∀ (t9 : St), K6 t9 = some z → gP p l e rm_f_X9_widen s m args below meth c E A 6 (MQ below ((gqI E (gW E r shH) z) A) args s mc ms A) (gW E r shH) 135 [(0, .ref (r 310)), (1, iv y2)] [] t9) : ∀ (n9 : Nat) (x4 : Int) (t5 : St), f_X9_widen_L7 N K6 y2 y3 n9 x4 t5 = some z → gP p l e rm_f_X9_widen s m args below meth c E A 6 (MQ below ((gqI E (gW E r shH) z) A) args s mc ms A) (gW E r shH) 7 [(0, .ref (r 310)), (1, iv y2), (2, iv y3), (3, iv x4)] [] t5 := by
  intro n9
  induction n9 with
  | zero => intro x4 t5 h; cases h
  | succ n9 ih =>
    intro x4 t5 h
    unfold f_X9_widen_L7 at h
    refine g_iload_n X dX9_widen_7 3 rfl ?_
    refine g_aload_n X dX9_widen_8 0 rfl ?_
    refine g_getR X fH_X9_23_310 rfl dX9_widen_9 ?_
    refine g_iload_n X dX9_widen_12 1 rfl ?_
    refine g_iconst X dX9_widen_13 ?_
    refine g_iadd X dX9_widen_14 ?_
    refine g_iald X aH_433 dX9_widen_15 h (fun v7 h => ?_)
    refine g_icmp_ge (tgt := 135) X dX9_widen_16 (by decide) h (fun h => ?_) (fun h => ?_)
    · exact g_sub (lv' := [(0, .ref (r 310)), (1, iv y2)]) [0, 1] rfl (hK6 t5 h)
    · refine g_aload_n X dX9_widen_19 0 rfl ?_
      refine g_iload_n X dX9_widen_20 3 rfl ?_
      refine g_iload_n X dX9_widen_21 2 rfl ?_
      refine g_callOV (rest := []) X (fun u9 h9 => cp_X9_unpack l E r N x4 y3 t5 u9 h9) yy_X9_unpack yi_X9_unpack wdM_RX9_111 ⟨_, _, oH_310⟩ rfl rfl rfl (Nat.le_of_ble_eq_true rfl) dX9_widen_22 ⟨by decide, by decide⟩ ⟨rfl, rfl⟩ h (fun t8 h => ?_)
      refine g_aload_n X dX9_widen_25 0 rfl ?_
      refine g_getR X fH_X9_54_310 rfl dX9_widen_26 ?_
      refine g_aload_n X dX9_widen_29 0 rfl ?_
      refine g_getR X fH_X9_36_310 rfl dX9_widen_30 ?_
      refine g_iload_n X dX9_widen_33 2 rfl ?_
      refine g_callOV (rest := []) X (fun u9 h9 => cp_X3_place l E r N 1 (by decide) 437 16 aH_437 y3 t8 u9 h9) yy_X3_place yi_X3_place wdM_RX9_114 (oX3 (o := 1) (by decide)) rfl rfl rfl (Nat.le_of_ble_eq_true rfl) dX9_widen_34 ⟨by decide, by decide⟩ ⟨rfl, rfl⟩ h (fun t9 h => ?_)
      refine g_iconst X dX9_widen_37 ?_
      refine g_istore (lv' := [(4, iv 0), (0, .ref (r 310)), (1, iv y2), (2, iv y3), (3, iv x4)]) X dX9_widen_38 (by decide) rfl ?_
      refine g_sub (lv' := [(0, .ref (r 310)), (1, iv y2), (2, iv y3), (3, iv x4), (4, iv 0)]) [1, 2, 3, 4, 0] rfl (t_f_X9_widen_L40 X (fun t29 h => ?_) N 0 t9 h)
      · refine g_iinc (lv' := [(3, iv (x4 + 1)), (0, .ref (r 310)), (1, iv y2), (2, iv y3)]) X dX9_widen_129 (k := 3) rfl (by decide) rfl ?_
        refine g_goto (tgt := 7) X dX9_widen_132 (by decide) ?_
        exact g_sub (lv' := [(0, .ref (r 310)), (1, iv y2), (2, iv y3), (3, iv (x4 + 1))]) [1, 2, 3, 0] rfl (ih (x4 + 1) t29 h)
set_option maxHeartbeats 4000000 in
set_option maxRecDepth 100000 in
theorem b_f_X9_widen {p : Program} {l : Launch} {e : Env} {s : State} {m : MethodId} {args : Array Value} {below : List Frame} {meth : Method} {c : Code} {E : cE} {A : Nat → Prop} {r : Nat → Nat} {mc ms : Nat} {z : Int × St} {N : Nat} {a0 : Int} {a1 : Int} {t : St} (X : gX p s m meth c cX9_widen 6 (some .boolean) yX9_widen args E A) (h : f_X9_widen N a0 a1 t = some z) : gP p l e rm_f_X9_widen s m args below meth c E A 6 (MQ below ((gqI E (gW E r shH) z) A) args s mc ms A) (gW E r shH) 0 [(0, .ref (r 310)), (1, iv a0), (2, iv a1)] [] t := by
  unfold f_X9_widen at h
  refine g_aload_n X dX9_widen_0 0 rfl ?_
  refine g_getR X fH_X9_23_310 rfl dX9_widen_1 ?_
  refine g_iload_n X dX9_widen_4 1 rfl ?_
  refine g_iald X aH_433 dX9_widen_5 h (fun v1 h => ?_)
  refine g_istore_n (lv' := [(3, iv v1), (0, .ref (r 310)), (1, iv a0), (2, iv a1)]) X dX9_widen_6 rfl (by decide) rfl ?_
  refine g_sub (lv' := [(0, .ref (r 310)), (1, iv a0), (2, iv a1), (3, iv v1)]) [1, 2, 3, 0] rfl (t_f_X9_widen_L7 X (fun t30 h => ?_) N v1 t h)
  · refine g_aload_n X dX9_widen_135 0 rfl ?_
    refine g_getR X fH_X9_23_310 rfl dX9_widen_136 ?_
    refine g_iload_n X dX9_widen_139 1 rfl ?_
    refine g_iconst X dX9_widen_140 ?_
    refine g_iadd X dX9_widen_141 ?_
    refine g_aload_n X dX9_widen_142 0 rfl ?_
    refine g_getI X fH_X9_74_310 rfl dX9_widen_143 h (fun v31 h => ?_)
    refine g_iast X aH_433 dX9_widen_146 h (fun t32 h => ?_)
    refine g_iconst X dX9_widen_147 ?_
    exact g_zret X h dX9_widen_148
set_option maxHeartbeats 4000000 in
set_option maxRecDepth 100000 in
theorem cp_X9_widen (l : Launch) (E : cE) (r : Nat → Nat) (N : Nat) (a0 : Int) (a1 : Int) (t : St) (z : Int × St) (h : f_X9_widen N a0 a1 t = some z) : cM l E yX9_widen cX9_widen 6 (some .boolean) rm_f_X9_widen [.ref (r 310), iv a0, iv a1] (gW E r shH t) (gqI E (gW E r shH) z) := by
  refine g_of (w := gW E r shH) (by decide) (Nat.le_of_ble_eq_true rfl) ?_
  intro p e s m below meth c A X
  exact g_sub (lv' := [(0, .ref (r 310)), (1, iv a0), (2, iv a1)]) [0, 1, 2] rfl (b_f_X9_widen X h)
theorem yy_X9_widen : cY yX9_widen cX9_widen 6 (some .boolean) 2 := ⟨wdK_X9_widen, wdZ_RX9, by decide +kernel⟩
theorem yi_X9_widen : cYi yX9_widen := ⟨wdN_X9_widen, wdS_X9_widen⟩
