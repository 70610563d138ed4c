theorem dX2_findGreedy_0 : decode cX2_findGreedy 0 = .ok (.aload_n 1, 1) := by decide +kernel
theorem dX2_findGreedy_1 : decode cX2_findGreedy 1 = .ok (.aload_n 0, 1) := by decide +kernel
theorem dX2_findGreedy_2 : decode cX2_findGreedy 2 = .ok (.getfield 62, 3) := by decide +kernel
theorem dX2_findGreedy_5 : decode cX2_findGreedy 5 = .ok (.if_acmp .ne 23, 3) := by decide +kernel
theorem dX2_findGreedy_8 : decode cX2_findGreedy 8 = .ok (.aload_n 1, 1) := by decide +kernel
theorem dX2_findGreedy_9 : decode cX2_findGreedy 9 = .ok (.getfield 66, 3) := by decide +kernel
theorem dX2_findGreedy_12 : decode cX2_findGreedy 12 = .ok (.aload_n 0, 1) := by decide +kernel
theorem dX2_findGreedy_13 : decode cX2_findGreedy 13 = .ok (.getfield 70, 3) := by decide +kernel
theorem dX2_findGreedy_16 : decode cX2_findGreedy 16 = .ok (.if_icmp .ne 12, 3) := by decide +kernel
theorem dX2_findGreedy_19 : decode cX2_findGreedy 19 = .ok (.lload_n 3, 1) := by decide +kernel
theorem dX2_findGreedy_20 : decode cX2_findGreedy 20 = .ok (.aload_n 0, 1) := by decide +kernel
theorem dX2_findGreedy_21 : decode cX2_findGreedy 21 = .ok (.getfield 73, 3) := by decide +kernel
theorem dX2_findGreedy_24 : decode cX2_findGreedy 24 = .ok (.lcmp, 1) := by decide +kernel
theorem dX2_findGreedy_25 : decode cX2_findGreedy 25 = .ok (.ifCond .eq 29, 3) := by decide +kernel
theorem dX2_findGreedy_28 : decode cX2_findGreedy 28 = .ok (.aload_n 0, 1) := by decide +kernel
theorem dX2_findGreedy_29 : decode cX2_findGreedy 29 = .ok (.getfield 15, 3) := by decide +kernel
theorem dX2_findGreedy_32 : decode cX2_findGreedy 32 = .ok (.iconst 0, 1) := by decide +kernel
theorem dX2_findGreedy_33 : decode cX2_findGreedy 33 = .ok (.invokestatic 77, 3) := by decide +kernel
theorem dX2_findGreedy_36 : decode cX2_findGreedy 36 = .ok (.aload_n 0, 1) := by decide +kernel
theorem dX2_findGreedy_37 : decode cX2_findGreedy 37 = .ok (.aload_n 1, 1) := by decide +kernel
theorem dX2_findGreedy_38 : decode cX2_findGreedy 38 = .ok (.putfield 62, 3) := by decide +kernel
theorem dX2_findGreedy_41 : decode cX2_findGreedy 41 = .ok (.aload_n 0, 1) := by decide +kernel
theorem dX2_findGreedy_42 : decode cX2_findGreedy 42 = .ok (.aload_n 1, 1) := by decide +kernel
theorem dX2_findGreedy_43 : decode cX2_findGreedy 43 = .ok (.getfield 66, 3) := by decide +kernel
theorem dX2_findGreedy_46 : decode cX2_findGreedy 46 = .ok (.putfield 70, 3) := by decide +kernel
theorem dX2_findGreedy_49 : decode cX2_findGreedy 49 = .ok (.aload_n 0, 1) := by decide +kernel
theorem dX2_findGreedy_50 : decode cX2_findGreedy 50 = .ok (.lload_n 3, 1) := by decide +kernel
theorem dX2_findGreedy_51 : decode cX2_findGreedy 51 = .ok (.putfield 73, 3) := by decide +kernel
theorem dX2_findGreedy_54 : decode cX2_findGreedy 54 = .ok (.aload_n 0, 1) := by decide +kernel
theorem dX2_findGreedy_55 : decode cX2_findGreedy 55 = .ok (.getfield 15, 3) := by decide +kernel
theorem dX2_findGreedy_58 : decode cX2_findGreedy 58 = .ok (.iload_n 2, 1) := by decide +kernel
theorem dX2_findGreedy_59 : decode cX2_findGreedy 59 = .ok (.baload, 1) := by decide +kernel
theorem dX2_findGreedy_60 : decode cX2_findGreedy 60 = .ok (.ifCond .eq 4, 3) := by decide +kernel
theorem dX2_findGreedy_63 : decode cX2_findGreedy 63 = .ok (.return_, 1) := by decide +kernel
theorem dX2_findGreedy_64 : decode cX2_findGreedy 64 = .ok (.aload_n 0, 1) := by decide +kernel
theorem dX2_findGreedy_65 : decode cX2_findGreedy 65 = .ok (.getfield 15, 3) := by decide +kernel
theorem dX2_findGreedy_68 : decode cX2_findGreedy 68 = .ok (.iload_n 2, 1) := by decide +kernel
theorem dX2_findGreedy_69 : decode cX2_findGreedy 69 = .ok (.iconst 1, 1) := by decide +kernel
theorem dX2_findGreedy_70 : decode cX2_findGreedy 70 = .ok (.bastore, 1) := by decide +kernel
theorem dX2_findGreedy_71 : decode cX2_findGreedy 71 = .ok (.iconst 0, 1) := by decide +kernel
theorem dX2_findGreedy_72 : decode cX2_findGreedy 72 = .ok (.istore 5, 2) := by decide +kernel
theorem dX2_findGreedy_74 : decode cX2_findGreedy 74 = .ok (.iload 5, 2) := by decide +kernel
theorem dX2_findGreedy_76 : decode cX2_findGreedy 76 = .ok (.aload_n 1, 1) := by decide +kernel
theorem dX2_findGreedy_77 : decode cX2_findGreedy 77 = .ok (.getfield 83, 3) := by decide +kernel
theorem dX2_findGreedy_80 : decode cX2_findGreedy 80 = .ok (.if_icmp .ge 22, 3) := by decide +kernel
theorem dX2_findGreedy_83 : decode cX2_findGreedy 83 = .ok (.aload_n 0, 1) := by decide +kernel
theorem dX2_findGreedy_84 : decode cX2_findGreedy 84 = .ok (.getfield 9, 3) := by decide +kernel
theorem dX2_findGreedy_87 : decode cX2_findGreedy 87 = .ok (.iload_n 2, 1) := by decide +kernel
theorem dX2_findGreedy_88 : decode cX2_findGreedy 88 = .ok (.bipush 64, 2) := by decide +kernel
theorem dX2_findGreedy_90 : decode cX2_findGreedy 90 = .ok (.imul, 1) := by decide +kernel
theorem dX2_findGreedy_91 : decode cX2_findGreedy 91 = .ok (.iload 5, 2) := by decide +kernel
theorem dX2_findGreedy_93 : decode cX2_findGreedy 93 = .ok (.iadd, 1) := by decide +kernel
theorem dX2_findGreedy_94 : decode cX2_findGreedy 94 = .ok (.iconst (-1), 1) := by decide +kernel
theorem dX2_findGreedy_95 : decode cX2_findGreedy 95 = .ok (.bastore, 1) := by decide +kernel
theorem dX2_findGreedy_96 : decode cX2_findGreedy 96 = .ok (.iinc 5 1, 3) := by decide +kernel
theorem dX2_findGreedy_99 : decode cX2_findGreedy 99 = .ok (.goto (-25), 3) := by decide +kernel
theorem dX2_findGreedy_102 : decode cX2_findGreedy 102 = .ok (.lload_n 3, 1) := by decide +kernel
theorem dX2_findGreedy_103 : decode cX2_findGreedy 103 = .ok (.lstore 5, 2) := by decide +kernel
theorem dX2_findGreedy_105 : decode cX2_findGreedy 105 = .ok (.iconst 4, 1) := by decide +kernel
theorem dX2_findGreedy_106 : decode cX2_findGreedy 106 = .ok (.aload_n 0, 1) := by decide +kernel
theorem dX2_findGreedy_107 : decode cX2_findGreedy 107 = .ok (.getfield 29, 3) := by decide +kernel
theorem dX2_findGreedy_110 : decode cX2_findGreedy 110 = .ok (.getfield 49, 3) := by decide +kernel
theorem dX2_findGreedy_113 : decode cX2_findGreedy 113 = .ok (.iload_n 2, 1) := by decide +kernel
theorem dX2_findGreedy_114 : decode cX2_findGreedy 114 = .ok (.iaload, 1) := by decide +kernel
theorem dX2_findGreedy_115 : decode cX2_findGreedy 115 = .ok (.imul, 1) := by decide +kernel
theorem dX2_findGreedy_116 : decode cX2_findGreedy 116 = .ok (.istore 7, 2) := by decide +kernel
theorem dX2_findGreedy_118 : decode cX2_findGreedy 118 = .ok (.iconst 0, 1) := by decide +kernel
theorem dX2_findGreedy_119 : decode cX2_findGreedy 119 = .ok (.istore 8, 2) := by decide +kernel
theorem dX2_findGreedy_121 : decode cX2_findGreedy 121 = .ok (.iload 8, 2) := by decide +kernel
theorem dX2_findGreedy_123 : decode cX2_findGreedy 123 = .ok (.aload_n 1, 1) := by decide +kernel
theorem dX2_findGreedy_124 : decode cX2_findGreedy 124 = .ok (.getfield 83, 3) := by decide +kernel
theorem dX2_findGreedy_127 : decode cX2_findGreedy 127 = .ok (.if_icmp .ge 147, 3) := by decide +kernel
theorem dX2_findGreedy_130 : decode cX2_findGreedy 130 = .ok (.aload_n 1, 1) := by decide +kernel
theorem dX2_findGreedy_131 : decode cX2_findGreedy 131 = .ok (.getfield 86, 3) := by decide +kernel
theorem dX2_findGreedy_134 : decode cX2_findGreedy 134 = .ok (.iload 8, 2) := by decide +kernel
theorem dX2_findGreedy_136 : decode cX2_findGreedy 136 = .ok (.iaload, 1) := by decide +kernel
theorem dX2_findGreedy_137 : decode cX2_findGreedy 137 = .ok (.istore 9, 2) := by decide +kernel
theorem dX2_findGreedy_139 : decode cX2_findGreedy 139 = .ok (.lconst 0, 1) := by decide +kernel
theorem dX2_findGreedy_140 : decode cX2_findGreedy 140 = .ok (.lstore 10, 2) := by decide +kernel
theorem dX2_findGreedy_142 : decode cX2_findGreedy 142 = .ok (.iconst 0, 1) := by decide +kernel
theorem dX2_findGreedy_143 : decode cX2_findGreedy 143 = .ok (.istore 12, 2) := by decide +kernel
theorem dX2_findGreedy_145 : decode cX2_findGreedy 145 = .ok (.iload 12, 2) := by decide +kernel
theorem dX2_findGreedy_147 : decode cX2_findGreedy 147 = .ok (.iload 7, 2) := by decide +kernel
theorem dX2_findGreedy_149 : decode cX2_findGreedy 149 = .ok (.if_icmp .ge 42, 3) := by decide +kernel
theorem dX2_findGreedy_152 : decode cX2_findGreedy 152 = .ok (.lload 10, 2) := by decide +kernel
theorem dX2_findGreedy_154 : decode cX2_findGreedy 154 = .ok (.lconst 0, 1) := by decide +kernel
theorem dX2_findGreedy_155 : decode cX2_findGreedy 155 = .ok (.lcmp, 1) := by decide +kernel
theorem dX2_findGreedy_156 : decode cX2_findGreedy 156 = .ok (.ifCond .ne 35, 3) := by decide +kernel
theorem dX2_findGreedy_159 : decode cX2_findGreedy 159 = .ok (.lload 5, 2) := by decide +kernel
theorem dX2_findGreedy_161 : decode cX2_findGreedy 161 = .ok (.iload 9, 2) := by decide +kernel
theorem dX2_findGreedy_163 : decode cX2_findGreedy 163 = .ok (.lushr, 1) := by decide +kernel
theorem dX2_findGreedy_164 : decode cX2_findGreedy 164 = .ok (.lconst 1, 1) := by decide +kernel
theorem dX2_findGreedy_165 : decode cX2_findGreedy 165 = .ok (.land, 1) := by decide +kernel
theorem dX2_findGreedy_166 : decode cX2_findGreedy 166 = .ok (.lconst 0, 1) := by decide +kernel
theorem dX2_findGreedy_167 : decode cX2_findGreedy 167 = .ok (.lcmp, 1) := by decide +kernel
theorem dX2_findGreedy_168 : decode cX2_findGreedy 168 = .ok (.ifCond .eq 23, 3) := by decide +kernel
theorem dX2_findGreedy_171 : decode cX2_findGreedy 171 = .ok (.aload_n 0, 1) := by decide +kernel
theorem dX2_findGreedy_172 : decode cX2_findGreedy 172 = .ok (.aload_n 1, 1) := by decide +kernel
theorem dX2_findGreedy_173 : decode cX2_findGreedy 173 = .ok (.iload_n 2, 1) := by decide +kernel
theorem dX2_findGreedy_174 : decode cX2_findGreedy 174 = .ok (.iload 12, 2) := by decide +kernel
theorem dX2_findGreedy_176 : decode cX2_findGreedy 176 = .ok (.iload 9, 2) := by decide +kernel
theorem dX2_findGreedy_178 : decode cX2_findGreedy 178 = .ok (.lload 5, 2) := by decide +kernel
theorem dX2_findGreedy_180 : decode cX2_findGreedy 180 = .ok (.invokevirtual 89, 3) := by decide +kernel
theorem dX2_findGreedy_183 : decode cX2_findGreedy 183 = .ok (.lstore 10, 2) := by decide +kernel
theorem dX2_findGreedy_185 : decode cX2_findGreedy 185 = .ok (.iinc 12 1, 3) := by decide +kernel
theorem dX2_findGreedy_188 : decode cX2_findGreedy 188 = .ok (.goto (-43), 3) := by decide +kernel
theorem dX2_findGreedy_191 : decode cX2_findGreedy 191 = .ok (.lload 5, 2) := by decide +kernel
theorem dX2_findGreedy_193 : decode cX2_findGreedy 193 = .ok (.lload 10, 2) := by decide +kernel
theorem dX2_findGreedy_195 : decode cX2_findGreedy 195 = .ok (.ldc2_w 93, 3) := by decide +kernel
theorem dX2_findGreedy_198 : decode cX2_findGreedy 198 = .ok (.lxor, 1) := by decide +kernel
theorem dX2_findGreedy_199 : decode cX2_findGreedy 199 = .ok (.land, 1) := by decide +kernel
theorem dX2_findGreedy_200 : decode cX2_findGreedy 200 = .ok (.lstore 5, 2) := by decide +kernel
theorem dX2_findGreedy_202 : decode cX2_findGreedy 202 = .ok (.iconst 0, 1) := by decide +kernel
theorem dX2_findGreedy_203 : decode cX2_findGreedy 203 = .ok (.istore 13, 2) := by decide +kernel
theorem dX2_findGreedy_205 : decode cX2_findGreedy 205 = .ok (.iload 13, 2) := by decide +kernel
theorem dX2_findGreedy_207 : decode cX2_findGreedy 207 = .ok (.aload_n 0, 1) := by decide +kernel
theorem dX2_findGreedy_208 : decode cX2_findGreedy 208 = .ok (.getfield 29, 3) := by decide +kernel
theorem dX2_findGreedy_211 : decode cX2_findGreedy 211 = .ok (.getfield 49, 3) := by decide +kernel
theorem dX2_findGreedy_214 : decode cX2_findGreedy 214 = .ok (.iload_n 2, 1) := by decide +kernel
theorem dX2_findGreedy_215 : decode cX2_findGreedy 215 = .ok (.iaload, 1) := by decide +kernel
theorem dX2_findGreedy_216 : decode cX2_findGreedy 216 = .ok (.if_icmp .ge 52, 3) := by decide +kernel
theorem dX2_findGreedy_219 : decode cX2_findGreedy 219 = .ok (.lload 10, 2) := by decide +kernel
theorem dX2_findGreedy_221 : decode cX2_findGreedy 221 = .ok (.lconst 0, 1) := by decide +kernel
theorem dX2_findGreedy_222 : decode cX2_findGreedy 222 = .ok (.lcmp, 1) := by decide +kernel
theorem dX2_findGreedy_223 : decode cX2_findGreedy 223 = .ok (.ifCond .eq 45, 3) := by decide +kernel
theorem dX2_findGreedy_226 : decode cX2_findGreedy 226 = .ok (.aload_n 0, 1) := by decide +kernel
theorem dX2_findGreedy_227 : decode cX2_findGreedy 227 = .ok (.aload_n 1, 1) := by decide +kernel
theorem dX2_findGreedy_228 : decode cX2_findGreedy 228 = .ok (.iload_n 2, 1) := by decide +kernel
theorem dX2_findGreedy_229 : decode cX2_findGreedy 229 = .ok (.iload 12, 2) := by decide +kernel
theorem dX2_findGreedy_231 : decode cX2_findGreedy 231 = .ok (.iconst 1, 1) := by decide +kernel
theorem dX2_findGreedy_232 : decode cX2_findGreedy 232 = .ok (.isub, 1) := by decide +kernel
theorem dX2_findGreedy_233 : decode cX2_findGreedy 233 = .ok (.iload 9, 2) := by decide +kernel
theorem dX2_findGreedy_235 : decode cX2_findGreedy 235 = .ok (.iload 13, 2) := by decide +kernel
theorem dX2_findGreedy_237 : decode cX2_findGreedy 237 = .ok (.invokevirtual 95, 3) := by decide +kernel
theorem dX2_findGreedy_240 : decode cX2_findGreedy 240 = .ok (.istore 14, 2) := by decide +kernel
theorem dX2_findGreedy_242 : decode cX2_findGreedy 242 = .ok (.iload 14, 2) := by decide +kernel
theorem dX2_findGreedy_244 : decode cX2_findGreedy 244 = .ok (.ifCond .lt 18, 3) := by decide +kernel
theorem dX2_findGreedy_247 : decode cX2_findGreedy 247 = .ok (.aload_n 0, 1) := by decide +kernel
theorem dX2_findGreedy_248 : decode cX2_findGreedy 248 = .ok (.getfield 9, 3) := by decide +kernel
theorem dX2_findGreedy_251 : decode cX2_findGreedy 251 = .ok (.iload_n 2, 1) := by decide +kernel
theorem dX2_findGreedy_252 : decode cX2_findGreedy 252 = .ok (.bipush 64, 2) := by decide +kernel
theorem dX2_findGreedy_254 : decode cX2_findGreedy 254 = .ok (.imul, 1) := by decide +kernel
theorem dX2_findGreedy_255 : decode cX2_findGreedy 255 = .ok (.iload 14, 2) := by decide +kernel
theorem dX2_findGreedy_257 : decode cX2_findGreedy 257 = .ok (.iadd, 1) := by decide +kernel
theorem dX2_findGreedy_258 : decode cX2_findGreedy 258 = .ok (.iload 13, 2) := by decide +kernel
theorem dX2_findGreedy_260 : decode cX2_findGreedy 260 = .ok (.i2b, 1) := by decide +kernel
theorem dX2_findGreedy_261 : decode cX2_findGreedy 261 = .ok (.bastore, 1) := by decide +kernel
theorem dX2_findGreedy_262 : decode cX2_findGreedy 262 = .ok (.iinc 13 1, 3) := by decide +kernel
theorem dX2_findGreedy_265 : decode cX2_findGreedy 265 = .ok (.goto (-60), 3) := by decide +kernel
theorem dX2_findGreedy_268 : decode cX2_findGreedy 268 = .ok (.iinc 8 1, 3) := by decide +kernel
theorem dX2_findGreedy_271 : decode cX2_findGreedy 271 = .ok (.goto (-150), 3) := by decide +kernel
theorem dX2_findGreedy_274 : decode cX2_findGreedy 274 = .ok (.return_, 1) := by decide +kernel
abbrev rm_f_X2_findGreedy : Room := { frames := 2, cells := 0, slots := 0, locals := 60 }
def f_X2_findGreedy_L74 (o1 : Nat) (K10 : (St → Option (St))) (y6 : Int) : Nat → Int → St → Option (St)
  | 0, _, _ => none
  | n9 + 1, x8, t9 =>
    lt1 (t9.1 (305 + o1) 8) fun v11 =>
    cmpI x8 v11 (if x8 < v11 then (ixI ((y6 * 64) + x8) 2560 (lt1 (pI t9 380 ((y6 * 64) + x8).toNat (b8 (-1))) fun t12 =>
    f_X2_findGreedy_L74 o1 K10 y6 n9 (x8 + 1) t12))
    else (K10 t9))
def f_X2_findGreedy_L145 (N : Nat) (o1 : Nat) (K31 : (Int64 → Int → St → Option (St))) (y23 : Int) (y24 : Int64) (y25 : Int) (y27 : Int) : Nat → Int64 → Int → St → Option (St)
  | 0, _, _, _ => none
  | n9 + 1, x28, x29, t30 =>
    cmpI x29 y25 (if x29 < y25 then ((if x28 = (0 : Int64) then ((if ((ushrL y24 y27) &&& (1 : Int64)) = (0 : Int64) then (K31 x28 x29 t30)
    else (bdL (f_X2_membersOf N o1 y23 x29 y27 y24 t30) fun v33 t32 =>
    f_X2_findGreedy_L145 N o1 K31 y23 y24 y25 y27 n9 v33 (x29 + 1) t32)))
    else (K31 x28 x29 t30)))
    else (K31 x28 x29 t30))
def f_X2_findGreedy_L205 (N : Nat) (o1 : Nat) (K46 : (St → Option (St))) (y37 : Int) (y41 : Int) (y42 : Int64) (y43 : Int) : Nat → Int → St → Option (St)
  | 0, _, _ => none
  | n9 + 1, x44, t45 =>
    ixI y37 40 (lt1 (t45.1 350 y37.toNat) fun v47 =>
    cmpI x44 v47 (if x44 < v47 then ((if y42 = (0 : Int64) then (K46 t45)
    else (bdI (f_X2_whoIsIn N o1 y37 (y43 - 1) y41 x44 t45) fun v49 t48 =>
    jn1 (fun (t50 : St) => f_X2_findGreedy_L205 N o1 K46 y37 y41 y42 y43 n9 (x44 + 1) t50) fun J51 =>
    cmpI v49 0 (if v49 < 0 then (J51 t48)
    else (ixI ((y37 * 64) + v49) 2560 (lt1 (pI t48 380 ((y37 * 64) + v49).toNat (b8 (b8 x44))) fun t52 =>
    J51 t52))))))
    else (K46 t45)))
def f_X2_findGreedy_L121 (N : Nat) (o1 : Nat) (K20 : (St → Option (St))) (y15 : Int) (y17 : Int) : Nat → Int64 → Int → St → Option (St)
  | 0, _, _, _ => none
  | n9 + 1, x16, x18, t19 =>
    lt1 (t19.1 (305 + o1) 8) fun v21 =>
    cmpI x18 v21 (if x18 < v21 then (ixI x18 64 (lt1 (t19.1 (395 + 10 * o1) x18.toNat) fun v22 =>
    f_X2_findGreedy_L145 N o1 (fun (k34 : Int64) (k35 : Int) (t36 : St) => f_X2_findGreedy_L205 N o1 (fun (t53 : St) => f_X2_findGreedy_L121 N o1 K20 y15 y17 n9 (x16 &&& (k34 ^^^ (-1 : Int64))) (x18 + 1) t53) y15 v22 k34 k35 N 0 t36) y15 x16 y17 v22 N (0 : Int64) 0 t19))
    else (K20 t19))
def f_X2_findGreedy (N : Nat) (o1 : Nat) (a1 : Int) (a2 : Int64) (t : St) : Option (St) :=
    lt1 (t.1 311 3) fun v1 =>
    jn1 (fun (t2 : St) => ixI a1 40 (lt1 (t2.1 381 a1.toNat) fun v4 =>
    cmpI v4 0 (if v4 = 0 then (ixI a1 40 (lt1 (pI t2 381 a1.toNat (b8 1)) fun t5 =>
    f_X2_findGreedy_L74 o1 (fun (t13 : St) => ixI a1 40 (lt1 (t13.1 350 a1.toNat) fun v14 =>
    f_X2_findGreedy_L121 N o1 (fun (t54 : St) => some t54) a1 (4 * v14) N a2 0 t13)) a1 N 0 t5))
    else (some t2)))) fun J3 =>
    jn1 (fun (t55 : St) => bdV (f_J7_fill_031fb N 381 40 0 t55) fun t57 =>
    lt1 (pI t57 311 3 (((305 + o1 : Nat) : Int) + 1)) fun t58 =>
    lt1 (t58.1 (305 + o1) 9) fun v59 =>
    lt1 (pI t58 311 4 v59) fun t60 =>
    lt1 (pL t60 311 5 a2) fun t61 =>
    J3 t61) fun J56 =>
    (if v1 = 0 ∨ v1 = 306 ∨ v1 = 307 then (if v1 = ((305 + o1 : Nat) : Int) + 1 then (lt1 (t.1 (305 + o1) 9) fun v62 =>
    lt1 (t.1 311 4) fun v63 =>
    cmpI v62 v63 (if v62 = v63 then (lt1 (t.2 311 5) fun v64 =>
    (if a2 = v64 then (J3 t)
    else (J56 t)))
    else (J56 t)))
    else (J56 t)) else none)
set_option maxHeartbeats 4000000 in
set_option maxRecDepth 100000 in
theorem t_f_X2_findGreedy_L74 {p : Program} {l : Launch} {e : Env} {s : State} {m : MethodId} {args : Array Value} {below : List Frame} {meth : Method} {c : Code} {E : cE} {A : Nat → Prop} {r : Nat → Nat} {mc ms : Nat} {z : St} {o1 : Nat} (ho1 : o1 < 2) {K10 : (St → Option (St))} {y6 : Int} {y7 : Int64} (X : gX p s m meth c cX2_findGreedy 15 none yX2_findGreedy args E A) (hK10 : ∀ (t9 : St), K10 t9 = some z → gP p l e rm_f_X2_findGreedy s m args below meth c E A 15 (MQ below ((gqV E (gW E r shH) z) A) args s mc ms A) (gW E r shH) 102 [(0, .ref (r 311)), (1, .ref (r (305 + o1))), (2, iv y6), (3, .long y7)] [] t9) : ∀ (n9 : Nat) (x8 : Int) (t9 : St), f_X2_findGreedy_L74 o1 K10 y6 n9 x8 t9 = some z → gP p l e rm_f_X2_findGreedy s m args below meth c E A 15 (MQ below ((gqV E (gW E r shH) z) A) args s mc ms A) (gW E r shH) 74 [(0, .ref (r 311)), (1, .ref (r (305 + o1))), (2, iv y6), (3, .long y7), (5, iv x8)] [] t9 := by
  intro n9
  induction n9 with
  | zero => intro x8 t9 h; cases h
  | succ n9 ih =>
    intro x8 t9 h
    unfold f_X2_findGreedy_L74 at h
    refine g_iload X dX2_findGreedy_74 4 rfl ?_
    refine g_aload_n X dX2_findGreedy_76 1 rfl ?_
    refine g_getI X (fH_X2_83_o (o := o1) ho1) rfl dX2_findGreedy_77 h (fun v11 h => ?_)
    refine g_icmp_ge (tgt := 102) X dX2_findGreedy_80 (by decide) h (fun h => ?_) (fun h => ?_)
    · exact g_sub (lv' := [(0, .ref (r 311)), (1, .ref (r (305 + o1))), (2, iv y6), (3, .long y7)]) [0, 1, 2, 3] rfl (hK10 t9 h)
    · refine g_aload_n X dX2_findGreedy_83 0 rfl ?_
      refine g_getR X fH_X2_9_311 rfl dX2_findGreedy_84 ?_
      refine g_iload_n X dX2_findGreedy_87 2 rfl ?_
      refine g_bipush X dX2_findGreedy_88 (by decide) ?_
      refine g_imul X dX2_findGreedy_90 ?_
      refine g_iload X dX2_findGreedy_91 4 rfl ?_
      refine g_iadd X dX2_findGreedy_93 ?_
      refine g_iconst X dX2_findGreedy_94 ?_
      refine g_bast X aH_380 dX2_findGreedy_95 h (fun t12 h => ?_)
      refine g_iinc (lv' := [(5, iv (x8 + 1)), (0, .ref (r 311)), (1, .ref (r (305 + o1))), (2, iv y6), (3, .long y7)]) X dX2_findGreedy_96 (k := 4) rfl (by decide) rfl ?_
      refine g_goto (tgt := 74) X dX2_findGreedy_99 (by decide) ?_
      exact g_sub (lv' := [(0, .ref (r 311)), (1, .ref (r (305 + o1))), (2, iv y6), (3, .long y7), (5, iv (x8 + 1))]) [1, 2, 3, 4, 0] rfl (ih (x8 + 1) t12 h)
set_option maxHeartbeats 4000000 in
set_option maxRecDepth 100000 in
theorem t_f_X2_findGreedy_L145 {p : Program} {l : Launch} {e : Env} {s : State} {m : MethodId} {args : Array Value} {below : List Frame} {meth : Method} {c : Code} {E : cE} {A : Nat → Prop} {r : Nat → Nat} {mc ms : Nat} {z : St} {o1 : Nat} (ho1 : o1 < 2) {N : Nat} {K31 : (Int64 → Int → St → Option (St))} {y23 : Int} {y24 : Int64} {y25 : Int} {y26 : Int} {y27 : Int} (X : gX p s m meth c cX2_findGreedy 15 none yX2_findGreedy args E A) (hK31 : ∀ (q10 : Int64) (q12 : Int) (t9 : St), K31 q10 q12 t9 = some z → gP p l e rm_f_X2_findGreedy s m args below meth c E A 15 (MQ below ((gqV E (gW E r shH) z) A) args s mc ms A) (gW E r shH) 191 [(0, .ref (r 311)), (1, .ref (r (305 + o1))), (2, iv y23), (5, .long y24), (7, iv y25), (8, iv y26), (9, iv y27), (10, .long q10), (12, iv q12)] [] t9) : ∀ (n9 : Nat) (x28 : Int64) (x29 : Int) (t30 : St), f_X2_findGreedy_L145 N o1 K31 y23 y24 y25 y27 n9 x28 x29 t30 = some z → gP p l e rm_f_X2_findGreedy s m args below meth c E A 15 (MQ below ((gqV E (gW E r shH) z) A) args s mc ms A) (gW E r shH) 145 [(0, .ref (r 311)), (1, .ref (r (305 + o1))), (2, iv y23), (5, .long y24), (7, iv y25), (8, iv y26), (9, iv y27), (10, .long x28), (12, iv x29)] [] t30 := by
  intro n9
  induction n9 with
  | zero => intro x28 x29 t30 h; cases h
  | succ n9 ih =>
    intro x28 x29 t30 h
    unfold f_X2_findGreedy_L145 at h
    refine g_iload X dX2_findGreedy_145 8 rfl ?_
    refine g_iload X dX2_findGreedy_147 4 rfl ?_
    refine g_icmp_ge (tgt := 191) X dX2_findGreedy_149 (by decide) h (fun h => ?_) (fun h => ?_)
    · exact g_sub (lv' := [(0, .ref (r 311)), (1, .ref (r (305 + o1))), (2, iv y23), (5, .long y24), (7, iv y25), (8, iv y26), (9, iv y27), (10, .long x28), (12, iv x29)]) [0, 1, 2, 3, 4, 5, 6, 7, 8] rfl (hK31 x28 x29 t30 h)
    · refine g_lload X dX2_findGreedy_152 7 rfl ?_
      refine g_lconst (v := 0) X dX2_findGreedy_154 (by decide) ?_
      refine g_lcmp_ne (tgt := 191) X dX2_findGreedy_155 dX2_findGreedy_156 (by decide) h (fun h => ?_) (fun h => ?_)
      · exact g_sub (lv' := [(0, .ref (r 311)), (1, .ref (r (305 + o1))), (2, iv y23), (5, .long y24), (7, iv y25), (8, iv y26), (9, iv y27), (10, .long x28), (12, iv x29)]) [0, 1, 2, 3, 4, 5, 6, 7, 8] rfl (hK31 x28 x29 t30 h)
      · refine g_lload X dX2_findGreedy_159 3 rfl ?_
        refine g_iload X dX2_findGreedy_161 6 rfl ?_
        refine g_lushr X dX2_findGreedy_163 ?_
        refine g_lconst (v := 1) X dX2_findGreedy_164 (by decide) ?_
        refine g_land X dX2_findGreedy_165 ?_
        refine g_lconst (v := 0) X dX2_findGreedy_166 (by decide) ?_
        refine g_lcmp_eq (tgt := 191) X dX2_findGreedy_167 dX2_findGreedy_168 (by decide) h (fun h => ?_) (fun h => ?_)
        · exact g_sub (lv' := [(0, .ref (r 311)), (1, .ref (r (305 + o1))), (2, iv y23), (5, .long y24), (7, iv y25), (8, iv y26), (9, iv y27), (10, .long x28), (12, iv x29)]) [0, 1, 2, 3, 4, 5, 6, 7, 8] rfl (hK31 x28 x29 t30 h)
        · refine g_aload_n X dX2_findGreedy_171 0 rfl ?_
          refine g_aload_n X dX2_findGreedy_172 1 rfl ?_
          refine g_iload_n X dX2_findGreedy_173 2 rfl ?_
          refine g_iload X dX2_findGreedy_174 8 rfl ?_
          refine g_iload X dX2_findGreedy_176 6 rfl ?_
          refine g_lload X dX2_findGreedy_178 3 rfl ?_
          refine g_callOL (rest := []) X (fun u9 h9 => cp_X2_membersOf l E r N o1 ho1 y23 x29 y27 y24 t30 u9 h9) yy_X2_membersOf yi_X2_membersOf wdM_RX2_89 ⟨_, _, oH_311⟩ rfl rfl rfl (Nat.le_of_ble_eq_true rfl) dX2_findGreedy_180 ⟨by decide, by decide⟩ ⟨rfl, rfl⟩ h (fun v33 t32 h => ?_)
          refine g_lstore (lv' := [(10, .long v33), (0, .ref (r 311)), (1, .ref (r (305 + o1))), (2, iv y23), (5, .long y24), (7, iv y25), (8, iv y26), (9, iv y27), (12, iv x29)]) X dX2_findGreedy_183 (by decide) rfl ?_
          refine g_iinc (lv' := [(12, iv (x29 + 1)), (10, .long v33), (0, .ref (r 311)), (1, .ref (r (305 + o1))), (2, iv y23), (5, .long y24), (7, iv y25), (8, iv y26), (9, iv y27)]) X dX2_findGreedy_185 (k := 8) rfl (by decide) rfl ?_
          refine g_goto (tgt := 145) X dX2_findGreedy_188 (by decide) ?_
          exact g_sub (lv' := [(0, .ref (r 311)), (1, .ref (r (305 + o1))), (2, iv y23), (5, .long y24), (7, iv y25), (8, iv y26), (9, iv y27), (10, .long v33), (12, iv (x29 + 1))]) [2, 3, 4, 5, 6, 7, 8, 1, 0] rfl (ih v33 (x29 + 1) t32 h)
set_option maxHeartbeats 4000000 in
set_option maxRecDepth 100000 in
theorem t_f_X2_findGreedy_L205 {p : Program} {l : Launch} {e : Env} {s : State} {m : MethodId} {args : Array Value} {below : List Frame} {meth : Method} {c : Code} {E : cE} {A : Nat → Prop} {r : Nat → Nat} {mc ms : Nat} {z : St} {o1 : Nat} (ho1 : o1 < 2) {N : Nat} {K46 : (St → Option (St))} {y37 : Int} {y38 : Int64} {y39 : Int} {y40 : Int} {y41 : Int} {y42 : Int64} {y43 : Int} (X : gX p s m meth c cX2_findGreedy 15 none yX2_findGreedy args E A) (hK46 : ∀ (t9 : St), K46 t9 = some z → gP p l e rm_f_X2_findGreedy s m args below meth c E A 15 (MQ below ((gqV E (gW E r shH) z) A) args s mc ms A) (gW E r shH) 268 [(0, .ref (r 311)), (1, .ref (r (305 + o1))), (2, iv y37), (5, .long y38), (7, iv y39), (8, iv y40)] [] t9) : ∀ (n9 : Nat) (x44 : Int) (t45 : St), f_X2_findGreedy_L205 N o1 K46 y37 y41 y42 y43 n9 x44 t45 = some z → gP p l e rm_f_X2_findGreedy s m args below meth c E A 15 (MQ below ((gqV E (gW E r shH) z) A) args s mc ms A) (gW E r shH) 205 [(0, .ref (r 311)), (1, .ref (r (305 + o1))), (2, iv y37), (5, .long y38), (7, iv y39), (8, iv y40), (9, iv y41), (10, .long y42), (12, iv y43), (13, iv x44)] [] t45 := by
  intro n9
  induction n9 with
  | zero => intro x44 t45 h; cases h
  | succ n9 ih =>
    intro x44 t45 h
    unfold f_X2_findGreedy_L205 at h
    refine g_iload X dX2_findGreedy_205 9 rfl ?_
    refine g_aload_n X dX2_findGreedy_207 0 rfl ?_
    refine g_getR X fH_X2_29_311 rfl dX2_findGreedy_208 ?_
    refine g_getR X fH_X2_49_302 rfl dX2_findGreedy_211 ?_
    refine g_iload_n X dX2_findGreedy_214 2 rfl ?_
    refine g_iald X aH_350 dX2_findGreedy_215 h (fun v47 h => ?_)
    refine g_icmp_ge (tgt := 268) X dX2_findGreedy_216 (by decide) h (fun h => ?_) (fun h => ?_)
    · exact g_sub (lv' := [(0, .ref (r 311)), (1, .ref (r (305 + o1))), (2, iv y37), (5, .long y38), (7, iv y39), (8, iv y40)]) [0, 1, 2, 3, 4, 5] rfl (hK46 t45 h)
    · refine g_lload X dX2_findGreedy_219 7 rfl ?_
      refine g_lconst (v := 0) X dX2_findGreedy_221 (by decide) ?_
      refine g_lcmp_eq (tgt := 268) X dX2_findGreedy_222 dX2_findGreedy_223 (by decide) h (fun h => ?_) (fun h => ?_)
      · exact g_sub (lv' := [(0, .ref (r 311)), (1, .ref (r (305 + o1))), (2, iv y37), (5, .long y38), (7, iv y39), (8, iv y40)]) [0, 1, 2, 3, 4, 5] rfl (hK46 t45 h)
      · refine g_aload_n X dX2_findGreedy_226 0 rfl ?_
        refine g_aload_n X dX2_findGreedy_227 1 rfl ?_
        refine g_iload_n X dX2_findGreedy_228 2 rfl ?_
        refine g_iload X dX2_findGreedy_229 8 rfl ?_
        refine g_iconst X dX2_findGreedy_231 ?_
        refine g_isub X dX2_findGreedy_232 ?_
        refine g_iload X dX2_findGreedy_233 6 rfl ?_
        refine g_iload X dX2_findGreedy_235 9 rfl ?_
        refine g_callOI (rest := []) X (fun u9 h9 => cp_X2_whoIsIn l E r N o1 ho1 y37 (y43 - 1) y41 x44 t45 u9 h9) yy_X2_whoIsIn yi_X2_whoIsIn wdM_RX2_95 ⟨_, _, oH_311⟩ rfl rfl rfl (Nat.le_of_ble_eq_true rfl) dX2_findGreedy_237 ⟨by decide, by decide⟩ ⟨rfl, rfl⟩ h (fun v49 t48 h => ?_)
        refine g_istore (lv' := [(14, iv v49), (0, .ref (r 311)), (1, .ref (r (305 + o1))), (2, iv y37), (5, .long y38), (7, iv y39), (8, iv y40), (9, iv y41), (10, .long y42), (12, iv y43), (13, iv x44)]) X dX2_findGreedy_240 (by decide) rfl ?_
        refine g_iload X dX2_findGreedy_242 0 rfl ?_
        refine g_join (J := fun jj => ∀ (t50 : St), jj  t50 = some z → gP p l e rm_f_X2_findGreedy s m args below meth c E A 15 (MQ below ((gqV E (gW E r shH) z) A) args s mc ms A) (gW E r shH) 262 [(0, .ref (r 311)), (1, .ref (r (305 + o1))), (2, iv y37), (5, .long y38), (7, iv y39), (8, iv y40), (9, iv y41), (10, .long y42), (12, iv y43), (13, iv x44)] [] t50) h (fun  t50 h => ?_) (fun J51 hJ51 h => ?_)
        · refine g_iinc (lv' := [(13, iv (x44 + 1)), (0, .ref (r 311)), (1, .ref (r (305 + o1))), (2, iv y37), (5, .long y38), (7, iv y39), (8, iv y40), (9, iv y41), (10, .long y42), (12, iv y43)]) X dX2_findGreedy_262 (k := 9) rfl (by decide) rfl ?_
          refine g_goto (tgt := 205) X dX2_findGreedy_265 (by decide) ?_
          exact g_sub (lv' := [(0, .ref (r 311)), (1, .ref (r (305 + o1))), (2, iv y37), (5, .long y38), (7, iv y39), (8, iv y40), (9, iv y41), (10, .long y42), (12, iv y43), (13, iv (x44 + 1))]) [1, 2, 3, 4, 5, 6, 7, 8, 9, 0] rfl (ih (x44 + 1) t50 h)
        refine g_if_lt (tgt := 262) X dX2_findGreedy_244 (by decide) h (fun h => ?_) (fun h => ?_)
        · exact g_sub (lv' := [(0, .ref (r 311)), (1, .ref (r (305 + o1))), (2, iv y37), (5, .long y38), (7, iv y39), (8, iv y40), (9, iv y41), (10, .long y42), (12, iv y43), (13, iv x44)]) [1, 2, 3, 4, 5, 6, 7, 8, 9, 10] rfl (hJ51 t48 h)
        · refine g_aload_n X dX2_findGreedy_247 1 rfl ?_
          refine g_getR X fH_X2_9_311 rfl dX2_findGreedy_248 ?_
          refine g_iload_n X dX2_findGreedy_251 3 rfl ?_
          refine g_bipush X dX2_findGreedy_252 (by decide) ?_
          refine g_imul X dX2_findGreedy_254 ?_
          refine g_iload X dX2_findGreedy_255 0 rfl ?_
          refine g_iadd X dX2_findGreedy_257 ?_
          refine g_iload X dX2_findGreedy_258 10 rfl ?_
          refine g_i2b X dX2_findGreedy_260 ?_
          refine g_bast X aH_380 dX2_findGreedy_261 h (fun t52 h => ?_)
          exact g_sub (lv' := [(0, .ref (r 311)), (1, .ref (r (305 + o1))), (2, iv y37), (5, .long y38), (7, iv y39), (8, iv y40), (9, iv y41), (10, .long y42), (12, iv y43), (13, iv x44)]) [1, 2, 3, 4, 5, 6, 7, 8, 9, 10] rfl (hJ51 t52 h)
set_option maxHeartbeats 4000000 in
set_option maxRecDepth 100000 in
theorem t_f_X2_findGreedy_L121 {p : Program} {l : Launch} {e : Env} {s : State} {m : MethodId} {args : Array Value} {below : List Frame} {meth : Method} {c : Code} {E : cE} {A : Nat → Prop} {r : Nat → Nat} {mc ms : Nat} {z : St} {o1 : Nat} (ho1 : o1 < 2) {N : Nat} {K20 : (St → Option (St))} {y15 : Int} {y17 : Int} (X : gX p s m meth c cX2_findGreedy 15 none yX2_findGreedy args E A) (hK20 : ∀ (t9 : St), K20 t9 = some z → gP p l e rm_f_X2_findGreedy s m args below meth c E A 15 (MQ below ((gqV E (gW E r shH) z) A) args s mc ms A) (gW E r shH) 274 [] [] t9) : ∀ (n9 : Nat) (x16 : Int64) (x18 : Int) (t19 : St), f_X2_findGreedy_L121 N o1 K20 y15 y17 n9 x16 x18 t19 = some z → gP p l e rm_f_X2_findGreedy s m args below meth c E A 15 (MQ below ((gqV E (gW E r shH) z) A) args s mc ms A) (gW E r shH) 121 [(0, .ref (r 311)), (1, .ref (r (305 + o1))), (2, iv y15), (5, .long x16), (7, iv y17), (8, iv x18)] [] t19 := by
  intro n9
  induction n9 with
  | zero => intro x16 x18 t19 h; cases h
  | succ n9 ih =>
    intro x16 x18 t19 h
    unfold f_X2_findGreedy_L121 at h
    refine g_iload X dX2_findGreedy_121 5 rfl ?_
    refine g_aload_n X dX2_findGreedy_123 1 rfl ?_
    refine g_getI X (fH_X2_83_o (o := o1) ho1) rfl dX2_findGreedy_124 h (fun v21 h => ?_)
    refine g_icmp_ge (tgt := 274) X dX2_findGreedy_127 (by decide) h (fun h => ?_) (fun h => ?_)
    · exact g_sub (lv' := []) [] rfl (hK20 t19 h)
    · refine g_aload_n X dX2_findGreedy_130 1 rfl ?_
      refine g_getR X (fH_X2_86_o (o := o1) ho1) rfl dX2_findGreedy_131 ?_
      refine g_iload X dX2_findGreedy_134 5 rfl ?_
      refine g_iald X (aF_5 (o := o1) ho1) dX2_findGreedy_136 h (fun v22 h => ?_)
      refine g_istore (lv' := [(9, iv v22), (0, .ref (r 311)), (1, .ref (r (305 + o1))), (2, iv y15), (5, .long x16), (7, iv y17), (8, iv x18)]) X dX2_findGreedy_137 (by decide) rfl ?_
      refine g_lconst (v := 0) X dX2_findGreedy_139 (by decide) ?_
      refine g_lstore (lv' := [(10, .long (0 : Int64)), (9, iv v22), (0, .ref (r 311)), (1, .ref (r (305 + o1))), (2, iv y15), (5, .long x16), (7, iv y17), (8, iv x18)]) X dX2_findGreedy_140 (by decide) rfl ?_
      refine g_iconst X dX2_findGreedy_142 ?_
      refine g_istore (lv' := [(12, iv 0), (10, .long (0 : Int64)), (9, iv v22), (0, .ref (r 311)), (1, .ref (r (305 + o1))), (2, iv y15), (5, .long x16), (7, iv y17), (8, iv x18)]) X dX2_findGreedy_143 (by decide) rfl ?_
      refine g_sub (lv' := [(0, .ref (r 311)), (1, .ref (r (305 + o1))), (2, iv y15), (5, .long x16), (7, iv y17), (8, iv x18), (9, iv v22), (10, .long (0 : Int64)), (12, iv 0)]) [3, 4, 5, 6, 7, 8, 2, 1, 0] rfl (t_f_X2_findGreedy_L145 ho1 X (fun k34 k35 t36 h => ?_) N (0 : Int64) 0 t19 h)
      · refine g_lload X dX2_findGreedy_191 3 rfl ?_
        refine g_lload X dX2_findGreedy_193 7 rfl ?_
        refine g_ldc2 X rfl wdL_RX2_93 dX2_findGreedy_195 ?_
        refine g_lxor X dX2_findGreedy_198 ?_
        refine g_land X dX2_findGreedy_199 ?_
        refine g_lstore (lv' := [(5, .long (x16 &&& (k34 ^^^ (-1 : Int64)))), (0, .ref (r 311)), (1, .ref (r (305 + o1))), (2, iv y15), (7, iv y17), (8, iv x18), (9, iv v22), (10, .long k34), (12, iv k35)]) X dX2_findGreedy_200 (by decide) rfl ?_
        refine g_iconst X dX2_findGreedy_202 ?_
        refine g_istore (lv' := [(13, iv 0), (5, .long (x16 &&& (k34 ^^^ (-1 : Int64)))), (0, .ref (r 311)), (1, .ref (r (305 + o1))), (2, iv y15), (7, iv y17), (8, iv x18), (9, iv v22), (10, .long k34), (12, iv k35)]) X dX2_findGreedy_203 (by decide) rfl ?_
        refine g_sub (lv' := [(0, .ref (r 311)), (1, .ref (r (305 + o1))), (2, iv y15), (5, .long (x16 &&& (k34 ^^^ (-1 : Int64)))), (7, iv y17), (8, iv x18), (9, iv v22), (10, .long k34), (12, iv k35), (13, iv 0)]) [2, 3, 4, 1, 5, 6, 7, 8, 9, 0] rfl (t_f_X2_findGreedy_L205 ho1 X (fun t53 h => ?_) N 0 t36 h)
        · refine g_iinc (lv' := [(8, iv (x18 + 1)), (0, .ref (r 311)), (1, .ref (r (305 + o1))), (2, iv y15), (5, .long (x16 &&& (k34 ^^^ (-1 : Int64)))), (7, iv y17)]) X dX2_findGreedy_268 (k := 5) rfl (by decide) rfl ?_
          refine g_goto (tgt := 121) X dX2_findGreedy_271 (by decide) ?_
          exact g_sub (lv' := [(0, .ref (r 311)), (1, .ref (r (305 + o1))), (2, iv y15), (5, .long (x16 &&& (k34 ^^^ (-1 : Int64)))), (7, iv y17), (8, iv (x18 + 1))]) [1, 2, 3, 4, 5, 0] rfl (ih (x16 &&& (k34 ^^^ (-1 : Int64))) (x18 + 1) t53 h)
set_option maxHeartbeats 4000000 in
set_option maxRecDepth 100000 in
theorem b_f_X2_findGreedy {p : Program} {l : Launch} {e : Env} {s : State} {m : MethodId} {args : Array Value} {below : List Frame} {meth : Method} {c : Code} {E : cE} {A : Nat → Prop} {r : Nat → Nat} {mc ms : Nat} {z : St} {N : Nat} {o1 : Nat} (ho1 : o1 < 2) {a1 : Int} {a2 : Int64} {t : St} (X : gX p s m meth c cX2_findGreedy 15 none yX2_findGreedy args E A) (h : f_X2_findGreedy N o1 a1 a2 t = some z) : gP p l e rm_f_X2_findGreedy s m args below meth c E A 15 (MQ below ((gqV E (gW E r shH) z) A) args s mc ms A) (gW E r shH) 0 [(0, .ref (r 311)), (1, .ref (r (305 + o1))), (2, iv a1), (3, .long a2)] [] t := by
  unfold f_X2_findGreedy at h
  refine g_aload_n X dX2_findGreedy_0 1 rfl ?_
  refine g_aload_n X dX2_findGreedy_1 0 rfl ?_
  refine g_getD X fH_X2_62_311 rfl dX2_findGreedy_2 h (fun v1 h => ?_)
  refine g_join (J := fun jj => ∀ (t2 : St), jj  t2 = some z → gP p l e rm_f_X2_findGreedy s m args below meth c E A 15 (MQ below ((gqV E (gW E r shH) z) A) args s mc ms A) (gW E r shH) 54 [(0, .ref (r 311)), (1, .ref (r (305 + o1))), (2, iv a1), (3, .long a2)] [] t2) h (fun  t2 h => ?_) (fun J3 hJ3 h => ?_)
  · refine g_aload_n X dX2_findGreedy_54 0 rfl ?_
    refine g_getR X fH_X2_15_311 rfl dX2_findGreedy_55 ?_
    refine g_iload_n X dX2_findGreedy_58 2 rfl ?_
    refine g_bald X aH_381 dX2_findGreedy_59 h (fun v4 h => ?_)
    refine g_if_eq (tgt := 64) X dX2_findGreedy_60 (by decide) h (fun h => ?_) (fun h => ?_)
    · refine g_aload_n X dX2_findGreedy_64 0 rfl ?_
      refine g_getR X fH_X2_15_311 rfl dX2_findGreedy_65 ?_
      refine g_iload_n X dX2_findGreedy_68 2 rfl ?_
      refine g_iconst X dX2_findGreedy_69 ?_
      refine g_bast X aH_381 dX2_findGreedy_70 h (fun t5 h => ?_)
      refine g_iconst X dX2_findGreedy_71 ?_
      refine g_istore (lv' := [(5, iv 0), (0, .ref (r 311)), (1, .ref (r (305 + o1))), (2, iv a1), (3, .long a2)]) X dX2_findGreedy_72 (by decide) rfl ?_
      refine g_sub (lv' := [(0, .ref (r 311)), (1, .ref (r (305 + o1))), (2, iv a1), (3, .long a2), (5, iv 0)]) [1, 2, 3, 4, 0] rfl (t_f_X2_findGreedy_L74 ho1 X (fun t13 h => ?_) N 0 t5 h)
      · refine g_lload_n X dX2_findGreedy_102 3 rfl ?_
        refine g_lstore (lv' := [(5, .long a2), (0, .ref (r 311)), (1, .ref (r (305 + o1))), (2, iv a1), (3, .long a2)]) X dX2_findGreedy_103 (by decide) rfl ?_
        refine g_iconst X dX2_findGreedy_105 ?_
        refine g_aload_n X dX2_findGreedy_106 1 rfl ?_
        refine g_getR X fH_X2_29_311 rfl dX2_findGreedy_107 ?_
        refine g_getR X fH_X2_49_302 rfl dX2_findGreedy_110 ?_
        refine g_iload_n X dX2_findGreedy_113 3 rfl ?_
        refine g_iald X aH_350 dX2_findGreedy_114 h (fun v14 h => ?_)
        refine g_imul X dX2_findGreedy_115 ?_
        refine g_istore (lv' := [(7, iv (4 * v14)), (5, .long a2), (0, .ref (r 311)), (1, .ref (r (305 + o1))), (2, iv a1), (3, .long a2)]) X dX2_findGreedy_116 (by decide) rfl ?_
        refine g_iconst X dX2_findGreedy_118 ?_
        refine g_istore (lv' := [(8, iv 0), (7, iv (4 * v14)), (5, .long a2), (0, .ref (r 311)), (1, .ref (r (305 + o1))), (2, iv a1), (3, .long a2)]) X dX2_findGreedy_119 (by decide) rfl ?_
        refine g_sub (lv' := [(0, .ref (r 311)), (1, .ref (r (305 + o1))), (2, iv a1), (5, .long a2), (7, iv (4 * v14)), (8, iv 0)]) [3, 4, 5, 2, 1, 0] rfl (t_f_X2_findGreedy_L121 ho1 X (fun t54 h => ?_) N a2 0 t13 h)
        · exact g_vret X h dX2_findGreedy_274
    · exact g_vret X h dX2_findGreedy_63
  refine g_join (J := fun jj => ∀ (t55 : St), jj  t55 = some z → gP p l e rm_f_X2_findGreedy s m args below meth c E A 15 (MQ below ((gqV E (gW E r shH) z) A) args s mc ms A) (gW E r shH) 28 [(0, .ref (r 311)), (1, .ref (r (305 + o1))), (2, iv a1), (3, .long a2)] [] t55) h (fun  t55 h => ?_) (fun J56 hJ56 h => ?_)
  · refine g_aload_n X dX2_findGreedy_28 0 rfl ?_
    refine g_getR X fH_X2_15_311 rfl dX2_findGreedy_29 ?_
    refine g_iconst X dX2_findGreedy_32 ?_
    refine g_callsV (rest := []) X (fun u9 h9 => cp_J7_fill_031fb l E r N 381 40 aH_381 0 t55 u9 h9) yy_J7_fill_031fb wdT_J7_fill_031fb wdM_RX2_77 rfl rfl (Nat.le_of_ble_eq_true rfl) dX2_findGreedy_33 ⟨by decide, by decide⟩ ⟨rfl, rfl⟩ h (fun t57 h => ?_)
    refine g_aload_n X dX2_findGreedy_36 0 rfl ?_
    refine g_aload_n X dX2_findGreedy_37 1 rfl ?_
    refine g_putD X fH_X2_62_311w rfl dX2_findGreedy_38 h (fun t58 h => ?_)
    refine g_aload_n X dX2_findGreedy_41 0 rfl ?_
    refine g_aload_n X dX2_findGreedy_42 1 rfl ?_
    refine g_getI X (fH_X2_66_o (o := o1) ho1) rfl dX2_findGreedy_43 h (fun v59 h => ?_)
    refine g_putI X fH_X2_70_311w rfl dX2_findGreedy_46 h (fun t60 h => ?_)
    refine g_aload_n X dX2_findGreedy_49 0 rfl ?_
    refine g_lload_n X dX2_findGreedy_50 3 rfl ?_
    refine g_putL X fH_X2_73_311w rfl dX2_findGreedy_51 h (fun t61 h => ?_)
    exact g_sub (lv' := [(0, .ref (r 311)), (1, .ref (r (305 + o1))), (2, iv a1), (3, .long a2)]) [0, 1, 2, 3] rfl (hJ3 t61 h)
  refine g_acmpD (tgt := 28) X ho1 oH_305 oH_306 (by decide) dX2_findGreedy_5 (by decide) h (fun h => ?_) (fun h => ?_)
  · exact g_sub (lv' := [(0, .ref (r 311)), (1, .ref (r (305 + o1))), (2, iv a1), (3, .long a2)]) [0, 1, 2, 3] rfl (hJ56 t h)
  · refine g_aload_n X dX2_findGreedy_8 1 rfl ?_
    refine g_getI X (fH_X2_66_o (o := o1) ho1) rfl dX2_findGreedy_9 h (fun v62 h => ?_)
    refine g_aload_n X dX2_findGreedy_12 0 rfl ?_
    refine g_getI X fH_X2_70_311 rfl dX2_findGreedy_13 h (fun v63 h => ?_)
    refine g_icmp_ne (tgt := 28) X dX2_findGreedy_16 (by decide) h (fun h => ?_) (fun h => ?_)
    · exact g_sub (lv' := [(0, .ref (r 311)), (1, .ref (r (305 + o1))), (2, iv a1), (3, .long a2)]) [0, 1, 2, 3] rfl (hJ56 t h)
    · refine g_lload_n X dX2_findGreedy_19 3 rfl ?_
      refine g_aload_n X dX2_findGreedy_20 0 rfl ?_
      refine g_getL X fH_X2_73_311 rfl dX2_findGreedy_21 h (fun v64 h => ?_)
      refine g_lcmp_eq (tgt := 54) X dX2_findGreedy_24 dX2_findGreedy_25 (by decide) h (fun h => ?_) (fun h => ?_)
      · exact g_sub (lv' := [(0, .ref (r 311)), (1, .ref (r (305 + o1))), (2, iv a1), (3, .long a2)]) [0, 1, 2, 3] rfl (hJ3 t h)
      · exact g_sub (lv' := [(0, .ref (r 311)), (1, .ref (r (305 + o1))), (2, iv a1), (3, .long a2)]) [0, 1, 2, 3] rfl (hJ56 t h)
set_option maxHeartbeats 4000000 in
set_option maxRecDepth 100000 in
theorem cp_X2_findGreedy (l : Launch) (E : cE) (r : Nat → Nat) (N : Nat) (o1 : Nat) (ho1 : o1 < 2) (a1 : Int) (a2 : Int64) (t : St) (z : St) (h : f_X2_findGreedy N o1 a1 a2 t = some z) : cM l E yX2_findGreedy cX2_findGreedy 15 none rm_f_X2_findGreedy [.ref (r 311), .ref (r (305 + o1)), iv a1, .long a2] (gW E r shH t) (gqV E (gW E r shH) z) := by
  refine g_of (w := gW E r shH) (by decide) (Nat.le_of_ble_eq_true rfl) ?_
  intro p e s m below meth c A X
  exact g_sub (lv' := [(0, .ref (r 311)), (1, .ref (r (305 + o1))), (2, iv a1), (3, .long a2)]) [0, 1, 2, 3] rfl (b_f_X2_findGreedy ho1 X h)
theorem yy_X2_findGreedy : cY yX2_findGreedy cX2_findGreedy 15 none 3 := ⟨wdK_X2_findGreedy, wdZ_RX2, by decide +kernel⟩
theorem yi_X2_findGreedy : cYi yX2_findGreedy := ⟨wdN_X2_findGreedy, wdS_X2_findGreedy⟩
theorem dX2_inGreedy_0 : decode cX2_inGreedy 0 = .ok (.lconst 0, 1) := by decide +kernel
theorem dX2_inGreedy_1 : decode cX2_inGreedy 1 = .ok (.lstore 4, 2) := by decide +kernel
theorem dX2_inGreedy_3 : decode cX2_inGreedy 3 = .ok (.iconst 0, 1) := by decide +kernel
theorem dX2_inGreedy_4 : decode cX2_inGreedy 4 = .ok (.istore 6, 2) := by decide +kernel
theorem dX2_inGreedy_6 : decode cX2_inGreedy 6 = .ok (.iload 6, 2) := by decide +kernel
theorem dX2_inGreedy_8 : decode cX2_inGreedy 8 = .ok (.aload_n 1, 1) := by decide +kernel
theorem dX2_inGreedy_9 : decode cX2_inGreedy 9 = .ok (.getfield 83, 3) := by decide +kernel
theorem dX2_inGreedy_12 : decode cX2_inGreedy 12 = .ok (.if_icmp .ge 47, 3) := by decide +kernel
theorem dX2_inGreedy_15 : decode cX2_inGreedy 15 = .ok (.aload_n 0, 1) := by decide +kernel
theorem dX2_inGreedy_16 : decode cX2_inGreedy 16 = .ok (.getfield 9, 3) := by decide +kernel
theorem dX2_inGreedy_19 : decode cX2_inGreedy 19 = .ok (.iload_n 2, 1) := by decide +kernel
theorem dX2_inGreedy_20 : decode cX2_inGreedy 20 = .ok (.bipush 64, 2) := by decide +kernel
theorem dX2_inGreedy_22 : decode cX2_inGreedy 22 = .ok (.imul, 1) := by decide +kernel
theorem dX2_inGreedy_23 : decode cX2_inGreedy 23 = .ok (.iload 6, 2) := by decide +kernel
theorem dX2_inGreedy_25 : decode cX2_inGreedy 25 = .ok (.iadd, 1) := by decide +kernel
theorem dX2_inGreedy_26 : decode cX2_inGreedy 26 = .ok (.baload, 1) := by decide +kernel
theorem dX2_inGreedy_27 : decode cX2_inGreedy 27 = .ok (.istore 7, 2) := by decide +kernel
theorem dX2_inGreedy_29 : decode cX2_inGreedy 29 = .ok (.iload 7, 2) := by decide +kernel
theorem dX2_inGreedy_31 : decode cX2_inGreedy 31 = .ok (.ifCond .lt 22, 3) := by decide +kernel
theorem dX2_inGreedy_34 : decode cX2_inGreedy 34 = .ok (.iload_n 3, 1) := by decide +kernel
theorem dX2_inGreedy_35 : decode cX2_inGreedy 35 = .ok (.ifCond .lt 9, 3) := by decide +kernel
theorem dX2_inGreedy_38 : decode cX2_inGreedy 38 = .ok (.iload_n 3, 1) := by decide +kernel
theorem dX2_inGreedy_39 : decode cX2_inGreedy 39 = .ok (.iload 7, 2) := by decide +kernel
theorem dX2_inGreedy_41 : decode cX2_inGreedy 41 = .ok (.if_icmp .ne 12, 3) := by decide +kernel
theorem dX2_inGreedy_44 : decode cX2_inGreedy 44 = .ok (.lload 4, 2) := by decide +kernel
theorem dX2_inGreedy_46 : decode cX2_inGreedy 46 = .ok (.lconst 1, 1) := by decide +kernel
theorem dX2_inGreedy_47 : decode cX2_inGreedy 47 = .ok (.iload 6, 2) := by decide +kernel
theorem dX2_inGreedy_49 : decode cX2_inGreedy 49 = .ok (.lshl, 1) := by decide +kernel
theorem dX2_inGreedy_50 : decode cX2_inGreedy 50 = .ok (.lor, 1) := by decide +kernel
theorem dX2_inGreedy_51 : decode cX2_inGreedy 51 = .ok (.lstore 4, 2) := by decide +kernel
theorem dX2_inGreedy_53 : decode cX2_inGreedy 53 = .ok (.iinc 6 1, 3) := by decide +kernel
theorem dX2_inGreedy_56 : decode cX2_inGreedy 56 = .ok (.goto (-50), 3) := by decide +kernel
theorem dX2_inGreedy_59 : decode cX2_inGreedy 59 = .ok (.lload 4, 2) := by decide +kernel
theorem dX2_inGreedy_61 : decode cX2_inGreedy 61 = .ok (.lreturn, 1) := by decide +kernel
abbrev rm_f_X2_inGreedy : Room := { frames := 0, cells := 0, slots := 0, locals := 0 }
def f_X2_inGreedy_L6 (o1 : Nat) (K6 : (Int64 → St → Option (Int64 × St))) (y1 : Int) (y2 : Int) : Nat → Int64 → Int → St → Option (Int64 × St)
  | 0, _, _, _ => none
  | n9 + 1, x3, x4, t5 =>
    lt1 (t5.1 (305 + o1) 8) fun v7 =>
    cmpI x4 v7 (if x4 < v7 then (ixI ((y1 * 64) + x4) 2560 (lt1 (t5.1 380 ((y1 * 64) + x4).toNat) fun v8 =>
    jn1 (fun (j9 : Int64) (t10 : St) => f_X2_inGreedy_L6 o1 K6 y1 y2 n9 j9 (x4 + 1) t10) fun J11 =>
    cmpI v8 0 (if v8 < 0 then (J11 x3 t5)
    else (jn1 (fun (t12 : St) => J11 (x3 ||| (shlL (1 : Int64) x4)) t12) fun J13 =>
    cmpI y2 0 (if y2 < 0 then (J13 t5)
    else (cmpI y2 v8 (if y2 = v8 then (J13 t5)
    else (J11 x3 t5))))))))
    else (K6 x3 t5))
def f_X2_inGreedy (N : Nat) (o1 : Nat) (a1 : Int) (a2 : Int) (t : St) : Option (Int64 × St) :=
    f_X2_inGreedy_L6 o1 (fun (k14 : Int64) (t15 : St) => some (k14, t15)) a1 a2 N (0 : Int64) 0 t
set_option maxHeartbeats 4000000 in
set_option maxRecDepth 100000 in
theorem t_f_X2_inGreedy_L6 {p : Program} {l : Launch} {e : Env} {s : State} {m : MethodId} {args : Array Value} {below : List Frame} {meth : Method} {c : Code} {E : cE} {A : Nat → Prop} {r : Nat → Nat} {mc ms : Nat} {z : Int64 × St} {o1 : Nat} (ho1 : o1 < 2) {K6 : (Int64 → St → Option (Int64 × St))} {y1 : Int} {y2 : Int} (X : gX p s m meth c cX2_inGreedy 8 (some .long) yX2_inGreedy args E A) (hK6 : ∀ (q4 : Int64) (t9 : St), K6 q4 t9 = some z → gP p l e rm_f_X2_inGreedy s m args below meth c E A 8 (MQ below ((gqL E (gW E r shH) z) A) args s mc ms A) (gW E r shH) 59 [(4, .long q4)] [] t9) : ∀ (n9 : Nat) (x3 : Int64) (x4 : Int) (t5 : St), f_X2_inGreedy_L6 o1 K6 y1 y2 n9 x3 x4 t5 = some z → gP p l e rm_f_X2_inGreedy s m args below meth c E A 8 (MQ below ((gqL E (gW E r shH) z) A) args s mc ms A) (gW E r shH) 6 [(0, .ref (r 311)), (1, .ref (r (305 + o1))), (2, iv y1), (3, iv y2), (4, .long x3), (6, iv x4)] [] t5 := by
  intro n9
  induction n9 with
  | zero => intro x3 x4 t5 h; cases h
  | succ n9 ih =>
    intro x3 x4 t5 h
    unfold f_X2_inGreedy_L6 at h
    refine g_iload X dX2_inGreedy_6 5 rfl ?_
    refine g_aload_n X dX2_inGreedy_8 1 rfl ?_
    refine g_getI X (fH_X2_83_o (o := o1) ho1) rfl dX2_inGreedy_9 h (fun v7 h => ?_)
    refine g_icmp_ge (tgt := 59) X dX2_inGreedy_12 (by decide) h (fun h => ?_) (fun h => ?_)
    · exact g_sub (lv' := [(4, .long x3)]) [4] rfl (hK6 x3 t5 h)
    · refine g_aload_n X dX2_inGreedy_15 0 rfl ?_
      refine g_getR X fH_X2_9_311 rfl dX2_inGreedy_16 ?_
      refine g_iload_n X dX2_inGreedy_19 2 rfl ?_
      refine g_bipush X dX2_inGreedy_20 (by decide) ?_
      refine g_imul X dX2_inGreedy_22 ?_
      refine g_iload X dX2_inGreedy_23 5 rfl ?_
      refine g_iadd X dX2_inGreedy_25 ?_
      refine g_bald X aH_380 dX2_inGreedy_26 h (fun v8 h => ?_)
      refine g_istore (lv' := [(7, iv v8), (0, .ref (r 311)), (1, .ref (r (305 + o1))), (2, iv y1), (3, iv y2), (4, .long x3), (6, iv x4)]) X dX2_inGreedy_27 (by decide) rfl ?_
      refine g_iload X dX2_inGreedy_29 0 rfl ?_
      refine g_join (J := fun jj => ∀ (j9 : Int64) (t10 : St), jj j9 t10 = some z → gP p l e rm_f_X2_inGreedy s m args below meth c E A 8 (MQ below ((gqL E (gW E r shH) z) A) args s mc ms A) (gW E r shH) 53 [(0, .ref (r 311)), (1, .ref (r (305 + o1))), (2, iv y1), (3, iv y2), (4, .long j9), (6, iv x4)] [] t10) h (fun j9 t10 h => ?_) (fun J11 hJ11 h => ?_)
      · refine g_iinc (lv' := [(6, iv (x4 + 1)), (0, .ref (r 311)), (1, .ref (r (305 + o1))), (2, iv y1), (3, iv y2), (4, .long j9)]) X dX2_inGreedy_53 (k := 5) rfl (by decide) rfl ?_
        refine g_goto (tgt := 6) X dX2_inGreedy_56 (by decide) ?_
        exact g_sub (lv' := [(0, .ref (r 311)), (1, .ref (r (305 + o1))), (2, iv y1), (3, iv y2), (4, .long j9), (6, iv (x4 + 1))]) [1, 2, 3, 4, 5, 0] rfl (ih j9 (x4 + 1) t10 h)
      refine g_if_lt (tgt := 53) X dX2_inGreedy_31 (by decide) h (fun h => ?_) (fun h => ?_)
      · exact g_sub (lv' := [(0, .ref (r 311)), (1, .ref (r (305 + o1))), (2, iv y1), (3, iv y2), (4, .long x3), (6, iv x4)]) [1, 2, 3, 4, 5, 6] rfl (hJ11 x3 t5 h)
      · refine g_iload_n X dX2_inGreedy_34 4 rfl ?_
        refine g_join (J := fun jj => ∀ (t12 : St), jj  t12 = some z → gP p l e rm_f_X2_inGreedy s m args below meth c E A 8 (MQ below ((gqL E (gW E r shH) z) A) args s mc ms A) (gW E r shH) 44 [(0, .ref (r 311)), (1, .ref (r (305 + o1))), (2, iv y1), (3, iv y2), (4, .long x3), (6, iv x4)] [] t12) h (fun  t12 h => ?_) (fun J13 hJ13 h => ?_)
        · refine g_lload X dX2_inGreedy_44 4 rfl ?_
          refine g_lconst (v := 1) X dX2_inGreedy_46 (by decide) ?_
          refine g_iload X dX2_inGreedy_47 5 rfl ?_
          refine g_lshl X dX2_inGreedy_49 ?_
          refine g_lor X dX2_inGreedy_50 ?_
          refine g_lstore (lv' := [(4, .long (x3 ||| (shlL (1 : Int64) x4))), (0, .ref (r 311)), (1, .ref (r (305 + o1))), (2, iv y1), (3, iv y2), (6, iv x4)]) X dX2_inGreedy_51 (by decide) rfl ?_
          exact g_sub (lv' := [(0, .ref (r 311)), (1, .ref (r (305 + o1))), (2, iv y1), (3, iv y2), (4, .long (x3 ||| (shlL (1 : Int64) x4))), (6, iv x4)]) [1, 2, 3, 4, 0, 5] rfl (hJ11 (x3 ||| (shlL (1 : Int64) x4)) t12 h)
        refine g_if_lt (tgt := 44) X dX2_inGreedy_35 (by decide) h (fun h => ?_) (fun h => ?_)
        · exact g_sub (lv' := [(0, .ref (r 311)), (1, .ref (r (305 + o1))), (2, iv y1), (3, iv y2), (4, .long x3), (6, iv x4)]) [1, 2, 3, 4, 5, 6] rfl (hJ13 t5 h)
        · refine g_iload_n X dX2_inGreedy_38 4 rfl ?_
          refine g_iload X dX2_inGreedy_39 0 rfl ?_
          refine g_icmp_ne (tgt := 53) X dX2_inGreedy_41 (by decide) h (fun h => ?_) (fun h => ?_)
          · exact g_sub (lv' := [(0, .ref (r 311)), (1, .ref (r (305 + o1))), (2, iv y1), (3, iv y2), (4, .long x3), (6, iv x4)]) [1, 2, 3, 4, 5, 6] rfl (hJ11 x3 t5 h)
          · exact g_sub (lv' := [(0, .ref (r 311)), (1, .ref (r (305 + o1))), (2, iv y1), (3, iv y2), (4, .long x3), (6, iv x4)]) [1, 2, 3, 4, 5, 6] rfl (hJ13 t5 h)
set_option maxHeartbeats 4000000 in
set_option maxRecDepth 100000 in
theorem b_f_X2_inGreedy {p : Program} {l : Launch} {e : Env} {s : State} {m : MethodId} {args : Array Value} {below : List Frame} {meth : Method} {c : Code} {E : cE} {A : Nat → Prop} {r : Nat → Nat} {mc ms : Nat} {z : Int64 × St} {N : Nat} {o1 : Nat} (ho1 : o1 < 2) {a1 : Int} {a2 : Int} {t : St} (X : gX p s m meth c cX2_inGreedy 8 (some .long) yX2_inGreedy args E A) (h : f_X2_inGreedy N o1 a1 a2 t = some z) : gP p l e rm_f_X2_inGreedy s m args below meth c E A 8 (MQ below ((gqL E (gW E r shH) z) A) args s mc ms A) (gW E r shH) 0 [(0, .ref (r 311)), (1, .ref (r (305 + o1))), (2, iv a1), (3, iv a2)] [] t := by
  unfold f_X2_inGreedy at h
  refine g_lconst (v := 0) X dX2_inGreedy_0 (by decide) ?_
  refine g_lstore (lv' := [(4, .long (0 : Int64)), (0, .ref (r 311)), (1, .ref (r (305 + o1))), (2, iv a1), (3, iv a2)]) X dX2_inGreedy_1 (by decide) rfl ?_
  refine g_iconst X dX2_inGreedy_3 ?_
  refine g_istore (lv' := [(6, iv 0), (4, .long (0 : Int64)), (0, .ref (r 311)), (1, .ref (r (305 + o1))), (2, iv a1), (3, iv a2)]) X dX2_inGreedy_4 (by decide) rfl ?_
  refine g_sub (lv' := [(0, .ref (r 311)), (1, .ref (r (305 + o1))), (2, iv a1), (3, iv a2), (4, .long (0 : Int64)), (6, iv 0)]) [2, 3, 4, 5, 1, 0] rfl (t_f_X2_inGreedy_L6 ho1 X (fun k14 t15 h => ?_) N (0 : Int64) 0 t h)
  · refine g_lload X dX2_inGreedy_59 0 rfl ?_
    exact g_lret X h dX2_inGreedy_61
set_option maxHeartbeats 4000000 in
set_option maxRecDepth 100000 in
theorem cp_X2_inGreedy (l : Launch) (E : cE) (r : Nat → Nat) (N : Nat) (o1 : Nat) (ho1 : o1 < 2) (a1 : Int) (a2 : Int) (t : St) (z : Int64 × St) (h : f_X2_inGreedy N o1 a1 a2 t = some z) : cM l E yX2_inGreedy cX2_inGreedy 8 (some .long) rm_f_X2_inGreedy [.ref (r 311), .ref (r (305 + o1)), iv a1, iv a2] (gW E r shH t) (gqL E (gW E r shH) z) := by
  refine g_of (w := gW E r shH) (by decide) (Nat.le_of_ble_eq_true rfl) ?_
  intro p e s m below meth c A X
  exact g_sub (lv' := [(0, .ref (r 311)), (1, .ref (r (305 + o1))), (2, iv a1), (3, iv a2)]) [0, 1, 2, 3] rfl (b_f_X2_inGreedy ho1 X h)
theorem yy_X2_inGreedy : cY yX2_inGreedy cX2_inGreedy 8 (some .long) 3 := ⟨wdK_X2_inGreedy, wdZ_RX2, by decide +kernel⟩
theorem yi_X2_inGreedy : cYi yX2_inGreedy := ⟨wdN_X2_inGreedy, wdS_X2_inGreedy⟩
abbrev rm_f_X3_codeOf : Room := { frames := 0, cells := 0, slots := 0, locals := 0 }
def f_X3_codeOf (N : Nat) (a0 : Int) (a1 : Int) (a2 : Int) (t : St) : Option (Int × St) :=
    rnI a0 (
    some (iorZ (((a1 * 16) + (a0 / 4)) * 4) a2, t))
set_option maxHeartbeats 4000000 in
set_option maxRecDepth 100000 in
theorem b_f_X3_codeOf {p : Program} {l : Launch} {e : Env} {s : State} {m : MethodId} {args : Array Value} {below : List Frame} {meth : Method} {c : Code} {E : cE} {A : Nat → Prop} {r : Nat → Nat} {mc ms : Nat} {z : Int × St} {N : Nat} {a0 : Int} {a1 : Int} {a2 : Int} {t : St} (X : gX p s m meth c cX3_codeOf 3 (some .int) yX3_codeOf args E A) (h : f_X3_codeOf N a0 a1 a2 t = some z) : gP p l e rm_f_X3_codeOf s m args below meth c E A 3 (MQ below ((gqI E (gW E r shH) z) A) args s mc ms A) (gW E r shH) 0 [(0, iv a0), (1, iv a1), (2, iv a2)] [] t := by
  unfold f_X3_codeOf at h
  refine g_iload_n X dX3_codeOf_0 1 rfl ?_
  refine g_iconst X dX3_codeOf_1 ?_
  refine g_shl X 4 (by decide) (M := 16) (by decide) (by decide) dX3_codeOf_2 ?_
  refine g_iload_n X dX3_codeOf_3 0 rfl ?_
  refine g_iconst X dX3_codeOf_4 ?_
  refine g_shr X 2 (by decide) (M := 4) (by decide) (by decide) dX3_codeOf_5 h (fun h => ?_)
  refine g_iadd X dX3_codeOf_6 ?_
  refine g_iconst X dX3_codeOf_7 ?_
  refine g_shl X 2 (by decide) (M := 4) (by decide) (by decide) dX3_codeOf_8 ?_
  refine g_iload_n X dX3_codeOf_9 2 rfl ?_
  refine g_ior X dX3_codeOf_10 ?_
  exact g_iret X h dX3_codeOf_11
set_option maxHeartbeats 4000000 in
set_option maxRecDepth 100000 in
theorem cp_X3_codeOf (l : Launch) (E : cE) (r : Nat → Nat) (N : Nat) (a0 : Int) (a1 : Int) (a2 : Int) (t : St) (z : Int × St) (h : f_X3_codeOf N a0 a1 a2 t = some z) : cM l E yX3_codeOf cX3_codeOf 3 (some .int) rm_f_X3_codeOf [iv a0, iv a1, iv a2] (gW E r shH t) (gqI E (gW E r shH) z) := by
  refine g_of (w := gW E r shH) (by decide) (Nat.le_of_ble_eq_true rfl) ?_
  intro p e s m below meth c A X
  exact g_sub (lv' := [(0, iv a0), (1, iv a1), (2, iv a2)]) [0, 1, 2] rfl (b_f_X3_codeOf X h)
abbrev rm_f_X3_codeAt : Room := { frames := 1, cells := 0, slots := 0, locals := 22 }
def f_X3_codeAt (N : Nat) (o0 : Nat) (a0 : Int) (t : St) : Option (Int × St) :=
    ixI a0 64 (lt1 (t.1 (390 + 10 * o0) a0.toNat) fun v1 =>
    ixI a0 64 (lt1 (t.1 (391 + 10 * o0) a0.toNat) fun v2 =>
    ixI a0 64 (lt1 (t.1 (392 + 10 * o0) a0.toNat) fun v3 =>
    bdI (f_X3_codeOf N v1 v2 v3 t) fun v5 t4 =>
    some (v5, t4))))
set_option maxHeartbeats 4000000 in
set_option maxRecDepth 100000 in
theorem b_f_X3_codeAt {p : Program} {l : Launch} {e : Env} {s : State} {m : MethodId} {args : Array Value} {below : List Frame} {meth : Method} {c : Code} {E : cE} {A : Nat → Prop} {r : Nat → Nat} {mc ms : Nat} {z : Int × St} {N : Nat} {o0 : Nat} (ho0 : o0 < 2) {a0 : Int} {t : St} (X : gX p s m meth c cX3_codeAt 2 (some .int) yX3_codeAt args E A) (h : f_X3_codeAt N o0 a0 t = some z) : gP p l e rm_f_X3_codeAt s m args below meth c E A 2 (MQ below ((gqI E (gW E r shH) z) A) args s mc ms A) (gW E r shH) 0 [(0, .ref (r (305 + o0))), (1, iv a0)] [] t := by
  unfold f_X3_codeAt at h
  refine g_aload_n X dX3_codeAt_0 0 rfl ?_
  refine g_getR X (fH_X3_9_o (o := o0) ho0) rfl dX3_codeAt_1 ?_
  refine g_iload_n X dX3_codeAt_4 1 rfl ?_
  refine g_iald X (aF_0 (o := o0) ho0) dX3_codeAt_5 h (fun v1 h => ?_)
  refine g_aload_n X dX3_codeAt_6 0 rfl ?_
  refine g_getR X (fH_X3_15_o (o := o0) ho0) rfl dX3_codeAt_7 ?_
  refine g_iload_n X dX3_codeAt_10 1 rfl ?_
  refine g_iald X (aF_1 (o := o0) ho0) dX3_codeAt_11 h (fun v2 h => ?_)
  refine g_aload_n X dX3_codeAt_12 0 rfl ?_
  refine g_getR X (fH_X3_18_o (o := o0) ho0) rfl dX3_codeAt_13 ?_
  refine g_iload_n X dX3_codeAt_16 1 rfl ?_
  refine g_iald X (aF_2 (o := o0) ho0) dX3_codeAt_17 h (fun v3 h => ?_)
  refine g_callsI (rest := []) X (fun u9 h9 => cp_X3_codeOf l E r N v1 v2 v3 t u9 h9) yy_X3_codeOf wdT_X3_codeOf wdM_RX3_44 rfl rfl (Nat.le_of_ble_eq_true rfl) dX3_codeAt_18 ⟨by decide, by decide⟩ ⟨rfl, rfl⟩ h (fun v5 t4 h => ?_)
  exact g_iret X h dX3_codeAt_21
set_option maxHeartbeats 4000000 in
set_option maxRecDepth 100000 in
theorem cp_X3_codeAt (l : Launch) (E : cE) (r : Nat → Nat) (N : Nat) (o0 : Nat) (ho0 : o0 < 2) (a0 : Int) (t : St) (z : Int × St) (h : f_X3_codeAt N o0 a0 t = some z) : cM l E yX3_codeAt cX3_codeAt 2 (some .int) rm_f_X3_codeAt [.ref (r (305 + o0)), iv a0] (gW E r shH t) (gqI E (gW E r shH) z) := by
  refine g_of (w := gW E r shH) (by decide) (Nat.le_of_ble_eq_true rfl) ?_
  intro p e s m below meth c A X
  exact g_sub (lv' := [(0, .ref (r (305 + o0))), (1, iv a0)]) [0, 1] rfl (b_f_X3_codeAt ho0 X h)
abbrev rm_f_X3_isAt : Room := { frames := 2, cells := 0, slots := 0, locals := 43 }
def f_X3_isAt_L2 (N : Nat) (o0 : Nat) (q0 : Nat) (n0 : Nat) (K3 : (St → Option (Int × St))) : Nat → Int → St → Option (Int × St)
  | 0, _, _ => none
  | n9 + 1, x1, t2 =>
    lt1 (t2.1 (305 + o0) 8) fun v4 =>
    cmpI x1 v4 (if x1 < v4 then (cmpI x1 ((n0 : Nat) : Int) (if x1 < ((n0 : Nat) : Int) then (ixI x1 n0 (lt1 (t2.1 q0 x1.toNat) fun v5 =>
    bdI (f_X3_codeAt N o0 x1 t2) fun v7 t6 =>
    cmpI v5 v7 (if v5 = v7 then (f_X3_isAt_L2 N o0 q0 n0 K3 n9 (x1 + 1) t6)
    else (boI 0 (some (0, t6))))))
    else (K3 t2)))
    else (K3 t2))
def f_X3_isAt (N : Nat) (o0 : Nat) (q0 : Nat) (n0 : Nat) (t : St) : Option (Int × St) :=
    f_X3_isAt_L2 N o0 q0 n0 (fun (t8 : St) => boI 1 (some (1, t8))) N 0 t
set_option maxHeartbeats 4000000 in
set_option maxRecDepth 100000 in
theorem t_f_X3_isAt_L2 {p : Program} {l : Launch} {e : Env} {s : State} {m : MethodId} {args : Array Value} {below : List Frame} {meth : Method} {c : Code} {E : cE} {A : Nat → Prop} {r : Nat → Nat} {mc ms : Nat} {z : Int × St} {o0 : Nat} (ho0 : o0 < 2) {q0 n0 : Nat} (hq0 : gA shH q0 1 n0) {N : Nat} {K3 : (St → Option (Int × St))} (X : gX p s m meth c cX3_isAt 3 (some .boolean) yX3_isAt args E A) (hK3 : ∀ (t9 : St), K3 t9 = some z → gP p l e rm_f_X3_isAt s m args below meth c E A 3 (MQ below ((gqI E (gW E r shH) z) A) args s mc ms A) (gW E r shH) 35 [] [] t9) : ∀ (n9 : Nat) (x1 : Int) (t2 : St), f_X3_isAt_L2 N o0 q0 n0 K3 n9 x1 t2 = some z → gP p l e rm_f_X3_isAt s m args below meth c E A 3 (MQ below ((gqI E (gW E r shH) z) A) args s mc ms A) (gW E r shH) 2 [(0, .ref (r (305 + o0))), (1, .ref (r q0)), (2, iv x1)] [] t2 := by
  intro n9
  induction n9 with
  | zero => intro x1 t2 h; cases h
  | succ n9 ih =>
    intro x1 t2 h
    unfold f_X3_isAt_L2 at h
    refine g_iload_n X dX3_isAt_2 2 rfl ?_
    refine g_aload_n X dX3_isAt_3 0 rfl ?_
    refine g_getI X (fH_X3_61_o (o := o0) ho0) rfl dX3_isAt_4 h (fun v4 h => ?_)
    refine g_icmp_ge (tgt := 35) X dX3_isAt_7 (by decide) h (fun h => ?_) (fun h => ?_)
    · exact g_sub (lv' := []) [] rfl (hK3 t2 h)
    · refine g_iload_n X dX3_isAt_10 2 rfl ?_
      refine g_aload_n X dX3_isAt_11 1 rfl ?_
      refine g_alen1 X hq0 dX3_isAt_12 ?_
      refine g_icmp_ge (tgt := 35) X dX3_isAt_13 (by decide) h (fun h => ?_) (fun h => ?_)
      · exact g_sub (lv' := []) [] rfl (hK3 t2 h)
      · refine g_aload_n X dX3_isAt_16 1 rfl ?_
        refine g_iload_n X dX3_isAt_17 2 rfl ?_
        refine g_iald X hq0 dX3_isAt_18 h (fun v5 h => ?_)
        refine g_aload_n X dX3_isAt_19 0 rfl ?_
        refine g_iload_n X dX3_isAt_20 2 rfl ?_
        refine g_callOI (rest := [iv v5]) X (fun u9 h9 => cp_X3_codeAt l E r N o0 ho0 x1 t2 u9 h9) yy_X3_codeAt yi_X3_codeAt wdM_RX3_65 (oX3 (o := o0) ho0) rfl rfl rfl (Nat.le_of_ble_eq_true rfl) dX3_isAt_21 ⟨by decide, by decide⟩ ⟨rfl, rfl⟩ h (fun v7 t6 h => ?_)
        refine g_icmp_eq (tgt := 29) X dX3_isAt_24 (by decide) h (fun h => ?_) (fun h => ?_)
        · refine g_iinc (lv' := [(2, iv (x1 + 1)), (0, .ref (r (305 + o0))), (1, .ref (r q0))]) X dX3_isAt_29 (k := 2) rfl (by decide) rfl ?_
          refine g_goto (tgt := 2) X dX3_isAt_32 (by decide) ?_
          exact g_sub (lv' := [(0, .ref (r (305 + o0))), (1, .ref (r q0)), (2, iv (x1 + 1))]) [1, 2, 0] rfl (ih (x1 + 1) t6 h)
        · refine g_iconst X dX3_isAt_27 ?_
          exact g_zret X h dX3_isAt_28
set_option maxHeartbeats 4000000 in
set_option maxRecDepth 100000 in
theorem b_f_X3_isAt {p : Program} {l : Launch} {e : Env} {s : State} {m : MethodId} {args : Array Value} {below : List Frame} {meth : Method} {c : Code} {E : cE} {A : Nat → Prop} {r : Nat → Nat} {mc ms : Nat} {z : Int × St} {N : Nat} {o0 : Nat} (ho0 : o0 < 2) {q0 n0 : Nat} (hq0 : gA shH q0 1 n0) {t : St} (X : gX p s m meth c cX3_isAt 3 (some .boolean) yX3_isAt args E A) (h : f_X3_isAt N o0 q0 n0 t = some z) : gP p l e rm_f_X3_isAt s m args below meth c E A 3 (MQ below ((gqI E (gW E r shH) z) A) args s mc ms A) (gW E r shH) 0 [(0, .ref (r (305 + o0))), (1, .ref (r q0))] [] t := by
  unfold f_X3_isAt at h
  refine g_iconst X dX3_isAt_0 ?_
  refine g_istore_n (lv' := [(2, iv 0), (0, .ref (r (305 + o0))), (1, .ref (r q0))]) X dX3_isAt_1 rfl (by decide) rfl ?_
  refine g_sub (lv' := [(0, .ref (r (305 + o0))), (1, .ref (r q0)), (2, iv 0)]) [1, 2, 0] rfl (t_f_X3_isAt_L2 ho0 hq0 X (fun t8 h => ?_) N 0 t h)
  · refine g_iconst X dX3_isAt_35 ?_
    exact g_zret X h dX3_isAt_36
set_option maxHeartbeats 4000000 in
set_option maxRecDepth 100000 in
theorem cp_X3_isAt (l : Launch) (E : cE) (r : Nat → Nat) (N : Nat) (o0 : Nat) (ho0 : o0 < 2) (q0 n0 : Nat) (hq0 : gA shH q0 1 n0) (t : St) (z : Int × St) (h : f_X3_isAt N o0 q0 n0 t = some z) : cM l E yX3_isAt cX3_isAt 3 (some .boolean) rm_f_X3_isAt [.ref (r (305 + o0)), .ref (r q0)] (gW E r shH t) (gqI E (gW E r shH) z) := by
  refine g_of (w := gW E r shH) (by decide) (Nat.le_of_ble_eq_true rfl) ?_
  intro p e s m below meth c A X
  exact g_sub (lv' := [(0, .ref (r (305 + o0))), (1, .ref (r q0))]) [0, 1] rfl (b_f_X3_isAt ho0 hq0 X h)
theorem dX1_plainly_0 : decode cX1_plainly 0 = .ok (.iload_n 0, 1) := by decide +kernel
theorem dX1_plainly_1 : decode cX1_plainly 1 = .ok (.tableswitch 80 1 7 #[43, 47, 51, 55, 59, 67, 71], 43) := by decide +kernel
theorem dX1_plainly_44 : decode cX1_plainly 44 = .ok (.ldc2_w 112, 3) := by decide +kernel
theorem dX1_plainly_47 : decode cX1_plainly 47 = .ok (.lreturn, 1) := by decide +kernel
theorem dX1_plainly_48 : decode cX1_plainly 48 = .ok (.ldc2_w 114, 3) := by decide +kernel
theorem dX1_plainly_51 : decode cX1_plainly 51 = .ok (.lreturn, 1) := by decide +kernel
theorem dX1_plainly_52 : decode cX1_plainly 52 = .ok (.ldc2_w 116, 3) := by decide +kernel
theorem dX1_plainly_55 : decode cX1_plainly 55 = .ok (.lreturn, 1) := by decide +kernel
theorem dX1_plainly_56 : decode cX1_plainly 56 = .ok (.ldc2_w 118, 3) := by decide +kernel
theorem dX1_plainly_59 : decode cX1_plainly 59 = .ok (.lreturn, 1) := by decide +kernel
theorem dX1_plainly_60 : decode cX1_plainly 60 = .ok (.ldc2_w 120, 3) := by decide +kernel
theorem dX1_plainly_63 : decode cX1_plainly 63 = .ok (.iconst 2, 1) := by decide +kernel
theorem dX1_plainly_64 : decode cX1_plainly 64 = .ok (.iload_n 1, 1) := by decide +kernel
theorem dX1_plainly_65 : decode cX1_plainly 65 = .ok (.imul, 1) := by decide +kernel
theorem dX1_plainly_66 : decode cX1_plainly 66 = .ok (.lshl, 1) := by decide +kernel
theorem dX1_plainly_67 : decode cX1_plainly 67 = .ok (.lreturn, 1) := by decide +kernel
theorem dX1_plainly_68 : decode cX1_plainly 68 = .ok (.lconst 1, 1) := by decide +kernel
theorem dX1_plainly_69 : decode cX1_plainly 69 = .ok (.iload_n 1, 1) := by decide +kernel
theorem dX1_plainly_70 : decode cX1_plainly 70 = .ok (.lshl, 1) := by decide +kernel
theorem dX1_plainly_71 : decode cX1_plainly 71 = .ok (.lreturn, 1) := by decide +kernel
theorem dX1_plainly_72 : decode cX1_plainly 72 = .ok (.aload_n 2, 1) := by decide +kernel
theorem dX1_plainly_73 : decode cX1_plainly 73 = .ok (.getfield 122, 3) := by decide +kernel
theorem dX1_plainly_76 : decode cX1_plainly 76 = .ok (.iload_n 1, 1) := by decide +kernel
theorem dX1_plainly_77 : decode cX1_plainly 77 = .ok (.iconst 3, 1) := by decide +kernel
theorem dX1_plainly_78 : decode cX1_plainly 78 = .ok (.iand, 1) := by decide +kernel
theorem dX1_plainly_79 : decode cX1_plainly 79 = .ok (.laload, 1) := by decide +kernel
theorem dX1_plainly_80 : decode cX1_plainly 80 = .ok (.lreturn, 1) := by decide +kernel
theorem dX1_plainly_81 : decode cX1_plainly 81 = .ok (.ldc2_w 76, 3) := by decide +kernel
theorem dX1_plainly_84 : decode cX1_plainly 84 = .ok (.lreturn, 1) := by decide +kernel
abbrev rm_f_X1_plainly : Room := { frames := 0, cells := 0, slots := 0, locals := 0 }
def f_X1_plainly (N : Nat) (o3 : Nat) (a0 : Int) (a1 : Int) (t : St) : Option (Int64 × St) :=
    rnI a0 (if a0 = 1 then (some ((6148914691236517205 : Int64), t))
    else (if a0 = 2 then (some ((-6148914691236517206 : Int64), t))
    else (if a0 = 3 then (some ((3689348814741910323 : Int64), t))
    else (if a0 = 4 then (some ((-3689348814741910324 : Int64), t))
    else (if a0 = 5 then (some (shlL (3 : Int64) (2 * a1), t))
    else (if a0 = 6 then (some (shlL (1 : Int64) a1, t))
    else (if a0 = 7 then (ixI (a1 % 4) 4 (lt1 (t.2 (396 + 10 * o3) (a1 % 4).toNat) fun v1 =>
    some (v1, t)))
    else (some ((-1 : Int64), t)))))))))
set_option maxHeartbeats 4000000 in
set_option maxRecDepth 100000 in
theorem b_f_X1_plainly {p : Program} {l : Launch} {e : Env} {s : State} {m : MethodId} {args : Array Value} {below : List Frame} {meth : Method} {c : Code} {E : cE} {A : Nat → Prop} {r : Nat → Nat} {mc ms : Nat} {z : Int64 × St} {N : Nat} {o3 : Nat} (ho3 : o3 < 2) {a0 : Int} {a1 : Int} {t : St} (X : gX p s m meth c cX1_plainly 3 (some .long) yX1_plainly args E A) (h : f_X1_plainly N o3 a0 a1 t = some z) : gP p l e rm_f_X1_plainly s m args below meth c E A 3 (MQ below ((gqL E (gW E r shH) z) A) args s mc ms A) (gW E r shH) 0 [(0, iv a0), (1, iv a1), (2, .ref (r (305 + o3)))] [] t := by
  unfold f_X1_plainly at h
  refine g_iload_n X dX1_plainly_0 0 rfl ?_
  obtain ⟨hr9, h⟩ := rnI_some h
  by_cases e9_1 : a0 = 1
  · rw [if_pos e9_1] at h
    refine g_tableIn X (tgt := 44) (off := 43) dX1_plainly_1 (k := 1) hr9 e9_1 (by decide) (by decide) rfl (by decide) ?_
    refine g_ldc2 X rfl wdL_RX1_112 dX1_plainly_44 ?_
    exact g_lret X h dX1_plainly_47
  · rw [if_neg e9_1] at h
    by_cases e9_2 : a0 = 2
    · rw [if_pos e9_2] at h
      refine g_tableIn X (tgt := 48) (off := 47) dX1_plainly_1 (k := 2) hr9 e9_2 (by decide) (by decide) rfl (by decide) ?_
      refine g_ldc2 X rfl wdL_RX1_114 dX1_plainly_48 ?_
      exact g_lret X h dX1_plainly_51
    · rw [if_neg e9_2] at h
      by_cases e9_3 : a0 = 3
      · rw [if_pos e9_3] at h
        refine g_tableIn X (tgt := 52) (off := 51) dX1_plainly_1 (k := 3) hr9 e9_3 (by decide) (by decide) rfl (by decide) ?_
        refine g_ldc2 X rfl wdL_RX1_116 dX1_plainly_52 ?_
        exact g_lret X h dX1_plainly_55
      · rw [if_neg e9_3] at h
        by_cases e9_4 : a0 = 4
        · rw [if_pos e9_4] at h
          refine g_tableIn X (tgt := 56) (off := 55) dX1_plainly_1 (k := 4) hr9 e9_4 (by decide) (by decide) rfl (by decide) ?_
          refine g_ldc2 X rfl wdL_RX1_118 dX1_plainly_56 ?_
          exact g_lret X h dX1_plainly_59
        · rw [if_neg e9_4] at h
          by_cases e9_5 : a0 = 5
          · rw [if_pos e9_5] at h
            refine g_tableIn X (tgt := 60) (off := 59) dX1_plainly_1 (k := 5) hr9 e9_5 (by decide) (by decide) rfl (by decide) ?_
            refine g_ldc2 X rfl wdL_RX1_120 dX1_plainly_60 ?_
            refine g_iconst X dX1_plainly_63 ?_
            refine g_iload_n X dX1_plainly_64 1 rfl ?_
            refine g_imul X dX1_plainly_65 ?_
            refine g_lshl X dX1_plainly_66 ?_
            exact g_lret X h dX1_plainly_67
          · rw [if_neg e9_5] at h
            by_cases e9_6 : a0 = 6
            · rw [if_pos e9_6] at h
              refine g_tableIn X (tgt := 68) (off := 67) dX1_plainly_1 (k := 6) hr9 e9_6 (by decide) (by decide) rfl (by decide) ?_
              refine g_lconst (v := 1) X dX1_plainly_68 (by decide) ?_
              refine g_iload_n X dX1_plainly_69 1 rfl ?_
              refine g_lshl X dX1_plainly_70 ?_
              exact g_lret X h dX1_plainly_71
            · rw [if_neg e9_6] at h
              by_cases e9_7 : a0 = 7
              · rw [if_pos e9_7] at h
                refine g_tableIn X (tgt := 72) (off := 71) dX1_plainly_1 (k := 7) hr9 e9_7 (by decide) (by decide) rfl (by decide) ?_
                refine g_aload_n X dX1_plainly_72 2 rfl ?_
                refine g_getR X (fH_X1_122_o (o := o3) ho3) rfl dX1_plainly_73 ?_
                refine g_iload_n X dX1_plainly_76 1 rfl ?_
                refine g_iconst X dX1_plainly_77 ?_
                refine g_mask X 2 (by decide) (M := 4) (by decide) (by decide) dX1_plainly_78 ?_
                refine g_lald X (aF_6 (o := o3) ho3) dX1_plainly_79 h (fun v1 h => ?_)
                exact g_lret X h dX1_plainly_80
              · rw [if_neg e9_7] at h
                refine g_tableOut X (tgt := 81) dX1_plainly_1 hr9 (by omega) (by decide) ?_
                refine g_ldc2 X rfl wdL_RX1_76 dX1_plainly_81 ?_
                exact g_lret X h dX1_plainly_84
set_option maxHeartbeats 4000000 in
set_option maxRecDepth 100000 in
theorem cp_X1_plainly (l : Launch) (E : cE) (r : Nat → Nat) (N : Nat) (o3 : Nat) (ho3 : o3 < 2) (a0 : Int) (a1 : Int) (t : St) (z : Int64 × St) (h : f_X1_plainly N o3 a0 a1 t = some z) : cM l E yX1_plainly cX1_plainly 3 (some .long) rm_f_X1_plainly [iv a0, iv a1, .ref (r (305 + o3))] (gW E r shH t) (gqL E (gW E r shH) z) := by
  refine g_of (w := gW E r shH) (by decide) (Nat.le_of_ble_eq_true rfl) ?_
  intro p e s m below meth c A X
  exact g_sub (lv' := [(0, iv a0), (1, iv a1), (2, .ref (r (305 + o3)))]) [0, 1, 2] rfl (b_f_X1_plainly ho3 X h)
theorem yy_X1_plainly : cY yX1_plainly cX1_plainly 3 (some .long) 3 := ⟨wdK_X1_plainly, wdZ_RX1, by decide +kernel⟩
theorem dX1_evaluate_0 : decode cX1_evaluate 0 = .ok (.iconst (-1), 1) := by decide +kernel
theorem dX1_evaluate_1 : decode cX1_evaluate 1 = .ok (.istore 5, 2) := by decide +kernel
theorem dX1_evaluate_3 : decode cX1_evaluate 3 = .ok (.iload_n 1, 1) := by decide +kernel
theorem dX1_evaluate_4 : decode cX1_evaluate 4 = .ok (.istore 6, 2) := by decide +kernel
theorem dX1_evaluate_6 : decode cX1_evaluate 6 = .ok (.iload 6, 2) := by decide +kernel
theorem dX1_evaluate_8 : decode cX1_evaluate 8 = .ok (.aload_n 0, 1) := by decide +kernel
theorem dX1_evaluate_9 : decode cX1_evaluate 9 = .ok (.getfield 40, 3) := by decide +kernel
theorem dX1_evaluate_12 : decode cX1_evaluate 12 = .ok (.getfield 53, 3) := by decide +kernel
theorem dX1_evaluate_15 : decode cX1_evaluate 15 = .ok (.if_icmp .ge 416, 3) := by decide +kernel
theorem dX1_evaluate_18 : decode cX1_evaluate 18 = .ok (.aload_n 0, 1) := by decide +kernel
theorem dX1_evaluate_19 : decode cX1_evaluate 19 = .ok (.getfield 40, 3) := by decide +kernel
theorem dX1_evaluate_22 : decode cX1_evaluate 22 = .ok (.iload 6, 2) := by decide +kernel
theorem dX1_evaluate_24 : decode cX1_evaluate 24 = .ok (.invokevirtual 59, 3) := by decide +kernel
theorem dX1_evaluate_27 : decode cX1_evaluate 27 = .ok (.bipush 16, 2) := by decide +kernel
theorem dX1_evaluate_29 : decode cX1_evaluate 29 = .ok (.if_icmp .gt 402, 3) := by decide +kernel
theorem dX1_evaluate_32 : decode cX1_evaluate 32 = .ok (.aload_n 0, 1) := by decide +kernel
theorem dX1_evaluate_33 : decode cX1_evaluate 33 = .ok (.getfield 40, 3) := by decide +kernel
theorem dX1_evaluate_36 : decode cX1_evaluate 36 = .ok (.iload 6, 2) := by decide +kernel
theorem dX1_evaluate_38 : decode cX1_evaluate 38 = .ok (.invokevirtual 59, 3) := by decide +kernel
theorem dX1_evaluate_41 : decode cX1_evaluate 41 = .ok (.istore 7, 2) := by decide +kernel
theorem dX1_evaluate_43 : decode cX1_evaluate 43 = .ok (.aload_n 0, 1) := by decide +kernel
theorem dX1_evaluate_44 : decode cX1_evaluate 44 = .ok (.getfield 40, 3) := by decide +kernel
theorem dX1_evaluate_47 : decode cX1_evaluate 47 = .ok (.iload 6, 2) := by decide +kernel
theorem dX1_evaluate_49 : decode cX1_evaluate 49 = .ok (.invokevirtual 63, 3) := by decide +kernel
theorem dX1_evaluate_52 : decode cX1_evaluate 52 = .ok (.istore 8, 2) := by decide +kernel
theorem dX1_evaluate_54 : decode cX1_evaluate 54 = .ok (.iload 5, 2) := by decide +kernel
theorem dX1_evaluate_56 : decode cX1_evaluate 56 = .ok (.iconst 0, 1) := by decide +kernel
theorem dX1_evaluate_57 : decode cX1_evaluate 57 = .ok (.invokestatic 66, 3) := by decide +kernel
theorem dX1_evaluate_60 : decode cX1_evaluate 60 = .ok (.istore 9, 2) := by decide +kernel
theorem dX1_evaluate_62 : decode cX1_evaluate 62 = .ok (.iload 7, 2) := by decide +kernel
theorem dX1_evaluate_64 : decode cX1_evaluate 64 = .ok (.tableswitch 333 8 16 #[200, 243, 52, 52, 93, 296, 135, 165, 116], 52) := by decide +kernel
theorem dX1_evaluate_116 : decode cX1_evaluate 116 = .ok (.iload 5, 2) := by decide +kernel
theorem dX1_evaluate_118 : decode cX1_evaluate 118 = .ok (.iconst 1, 1) := by decide +kernel
theorem dX1_evaluate_119 : decode cX1_evaluate 119 = .ok (.isub, 1) := by decide +kernel
theorem dX1_evaluate_120 : decode cX1_evaluate 120 = .ok (.iconst 0, 1) := by decide +kernel
theorem dX1_evaluate_121 : decode cX1_evaluate 121 = .ok (.invokestatic 66, 3) := by decide +kernel
theorem dX1_evaluate_124 : decode cX1_evaluate 124 = .ok (.istore 5, 2) := by decide +kernel
theorem dX1_evaluate_126 : decode cX1_evaluate 126 = .ok (.aload_n 0, 1) := by decide +kernel
theorem dX1_evaluate_127 : decode cX1_evaluate 127 = .ok (.getfield 11, 3) := by decide +kernel
theorem dX1_evaluate_130 : decode cX1_evaluate 130 = .ok (.iload 5, 2) := by decide +kernel
theorem dX1_evaluate_132 : decode cX1_evaluate 132 = .ok (.iload 7, 2) := by decide +kernel
theorem dX1_evaluate_134 : decode cX1_evaluate 134 = .ok (.aload_n 0, 1) := by decide +kernel
theorem dX1_evaluate_135 : decode cX1_evaluate 135 = .ok (.getfield 11, 3) := by decide +kernel
theorem dX1_evaluate_138 : decode cX1_evaluate 138 = .ok (.iload 5, 2) := by decide +kernel
theorem dX1_evaluate_140 : decode cX1_evaluate 140 = .ok (.laload, 1) := by decide +kernel
theorem dX1_evaluate_141 : decode cX1_evaluate 141 = .ok (.aload_n 0, 1) := by decide +kernel
theorem dX1_evaluate_142 : decode cX1_evaluate 142 = .ok (.getfield 11, 3) := by decide +kernel
theorem dX1_evaluate_145 : decode cX1_evaluate 145 = .ok (.iload 5, 2) := by decide +kernel
theorem dX1_evaluate_147 : decode cX1_evaluate 147 = .ok (.iconst 1, 1) := by decide +kernel
theorem dX1_evaluate_148 : decode cX1_evaluate 148 = .ok (.iadd, 1) := by decide +kernel
theorem dX1_evaluate_149 : decode cX1_evaluate 149 = .ok (.laload, 1) := by decide +kernel
theorem dX1_evaluate_150 : decode cX1_evaluate 150 = .ok (.invokestatic 72, 3) := by decide +kernel
theorem dX1_evaluate_153 : decode cX1_evaluate 153 = .ok (.lastore, 1) := by decide +kernel
theorem dX1_evaluate_154 : decode cX1_evaluate 154 = .ok (.goto 271, 3) := by decide +kernel
theorem dX1_evaluate_157 : decode cX1_evaluate 157 = .ok (.aload_n 0, 1) := by decide +kernel
theorem dX1_evaluate_158 : decode cX1_evaluate 158 = .ok (.getfield 11, 3) := by decide +kernel
theorem dX1_evaluate_161 : decode cX1_evaluate 161 = .ok (.iload 9, 2) := by decide +kernel
theorem dX1_evaluate_163 : decode cX1_evaluate 163 = .ok (.lload_n 3, 1) := by decide +kernel
theorem dX1_evaluate_164 : decode cX1_evaluate 164 = .ok (.aload_n 0, 1) := by decide +kernel
theorem dX1_evaluate_165 : decode cX1_evaluate 165 = .ok (.getfield 11, 3) := by decide +kernel
theorem dX1_evaluate_168 : decode cX1_evaluate 168 = .ok (.iload 9, 2) := by decide +kernel
theorem dX1_evaluate_170 : decode cX1_evaluate 170 = .ok (.laload, 1) := by decide +kernel
theorem dX1_evaluate_171 : decode cX1_evaluate 171 = .ok (.ldc2_w 76, 3) := by decide +kernel
theorem dX1_evaluate_174 : decode cX1_evaluate 174 = .ok (.lxor, 1) := by decide +kernel
theorem dX1_evaluate_175 : decode cX1_evaluate 175 = .ok (.land, 1) := by decide +kernel
theorem dX1_evaluate_176 : decode cX1_evaluate 176 = .ok (.lastore, 1) := by decide +kernel
theorem dX1_evaluate_177 : decode cX1_evaluate 177 = .ok (.goto 248, 3) := by decide +kernel
theorem dX1_evaluate_180 : decode cX1_evaluate 180 = .ok (.aload_n 0, 1) := by decide +kernel
theorem dX1_evaluate_181 : decode cX1_evaluate 181 = .ok (.getfield 11, 3) := by decide +kernel
theorem dX1_evaluate_184 : decode cX1_evaluate 184 = .ok (.iload 9, 2) := by decide +kernel
theorem dX1_evaluate_186 : decode cX1_evaluate 186 = .ok (.lconst 1, 1) := by decide +kernel
theorem dX1_evaluate_187 : decode cX1_evaluate 187 = .ok (.aload_n 0, 1) := by decide +kernel
theorem dX1_evaluate_188 : decode cX1_evaluate 188 = .ok (.getfield 11, 3) := by decide +kernel
theorem dX1_evaluate_191 : decode cX1_evaluate 191 = .ok (.iload 9, 2) := by decide +kernel
theorem dX1_evaluate_193 : decode cX1_evaluate 193 = .ok (.laload, 1) := by decide +kernel
theorem dX1_evaluate_194 : decode cX1_evaluate 194 = .ok (.lsub, 1) := by decide +kernel
theorem dX1_evaluate_195 : decode cX1_evaluate 195 = .ok (.lastore, 1) := by decide +kernel
theorem dX1_evaluate_196 : decode cX1_evaluate 196 = .ok (.goto 229, 3) := by decide +kernel
theorem dX1_evaluate_199 : decode cX1_evaluate 199 = .ok (.aload_n 0, 1) := by decide +kernel
theorem dX1_evaluate_200 : decode cX1_evaluate 200 = .ok (.getfield 11, 3) := by decide +kernel
theorem dX1_evaluate_203 : decode cX1_evaluate 203 = .ok (.iload 9, 2) := by decide +kernel
theorem dX1_evaluate_205 : decode cX1_evaluate 205 = .ok (.aload_n 0, 1) := by decide +kernel
theorem dX1_evaluate_206 : decode cX1_evaluate 206 = .ok (.getfield 11, 3) := by decide +kernel
theorem dX1_evaluate_209 : decode cX1_evaluate 209 = .ok (.iload 9, 2) := by decide +kernel
theorem dX1_evaluate_211 : decode cX1_evaluate 211 = .ok (.laload, 1) := by decide +kernel
theorem dX1_evaluate_212 : decode cX1_evaluate 212 = .ok (.invokestatic 78, 3) := by decide +kernel
theorem dX1_evaluate_215 : decode cX1_evaluate 215 = .ok (.iload 8, 2) := by decide +kernel
theorem dX1_evaluate_217 : decode cX1_evaluate 217 = .ok (.if_icmp .ne 7, 3) := by decide +kernel
theorem dX1_evaluate_220 : decode cX1_evaluate 220 = .ok (.lconst 1, 1) := by decide +kernel
theorem dX1_evaluate_221 : decode cX1_evaluate 221 = .ok (.goto 4, 3) := by decide +kernel
theorem dX1_evaluate_224 : decode cX1_evaluate 224 = .ok (.lconst 0, 1) := by decide +kernel
theorem dX1_evaluate_225 : decode cX1_evaluate 225 = .ok (.lastore, 1) := by decide +kernel
theorem dX1_evaluate_226 : decode cX1_evaluate 226 = .ok (.goto 199, 3) := by decide +kernel
theorem dX1_evaluate_229 : decode cX1_evaluate 229 = .ok (.aload_n 0, 1) := by decide +kernel
theorem dX1_evaluate_230 : decode cX1_evaluate 230 = .ok (.getfield 11, 3) := by decide +kernel
theorem dX1_evaluate_233 : decode cX1_evaluate 233 = .ok (.iload 9, 2) := by decide +kernel
theorem dX1_evaluate_235 : decode cX1_evaluate 235 = .ok (.aload_n 0, 1) := by decide +kernel
theorem dX1_evaluate_236 : decode cX1_evaluate 236 = .ok (.getfield 49, 3) := by decide +kernel
theorem dX1_evaluate_239 : decode cX1_evaluate 239 = .ok (.aload_n 2, 1) := by decide +kernel
theorem dX1_evaluate_240 : decode cX1_evaluate 240 = .ok (.iload 8, 2) := by decide +kernel
theorem dX1_evaluate_242 : decode cX1_evaluate 242 = .ok (.aload_n 0, 1) := by decide +kernel
theorem dX1_evaluate_243 : decode cX1_evaluate 243 = .ok (.getfield 11, 3) := by decide +kernel
theorem dX1_evaluate_246 : decode cX1_evaluate 246 = .ok (.iload 9, 2) := by decide +kernel
theorem dX1_evaluate_248 : decode cX1_evaluate 248 = .ok (.laload, 1) := by decide +kernel
theorem dX1_evaluate_249 : decode cX1_evaluate 249 = .ok (.invokevirtual 84, 3) := by decide +kernel
theorem dX1_evaluate_252 : decode cX1_evaluate 252 = .ok (.ifCond .ne 7, 3) := by decide +kernel
theorem dX1_evaluate_255 : decode cX1_evaluate 255 = .ok (.lconst 1, 1) := by decide +kernel
theorem dX1_evaluate_256 : decode cX1_evaluate 256 = .ok (.goto 4, 3) := by decide +kernel
theorem dX1_evaluate_259 : decode cX1_evaluate 259 = .ok (.lconst 0, 1) := by decide +kernel
theorem dX1_evaluate_260 : decode cX1_evaluate 260 = .ok (.lastore, 1) := by decide +kernel
theorem dX1_evaluate_261 : decode cX1_evaluate 261 = .ok (.goto 164, 3) := by decide +kernel
theorem dX1_evaluate_264 : decode cX1_evaluate 264 = .ok (.iload 5, 2) := by decide +kernel
theorem dX1_evaluate_266 : decode cX1_evaluate 266 = .ok (.iconst 1, 1) := by decide +kernel
theorem dX1_evaluate_267 : decode cX1_evaluate 267 = .ok (.iadd, 1) := by decide +kernel
theorem dX1_evaluate_268 : decode cX1_evaluate 268 = .ok (.bipush 95, 2) := by decide +kernel
theorem dX1_evaluate_270 : decode cX1_evaluate 270 = .ok (.invokestatic 88, 3) := by decide +kernel
theorem dX1_evaluate_273 : decode cX1_evaluate 273 = .ok (.istore 5, 2) := by decide +kernel
theorem dX1_evaluate_275 : decode cX1_evaluate 275 = .ok (.aload_n 0, 1) := by decide +kernel
theorem dX1_evaluate_276 : decode cX1_evaluate 276 = .ok (.getfield 49, 3) := by decide +kernel
theorem dX1_evaluate_279 : decode cX1_evaluate 279 = .ok (.aload_n 2, 1) := by decide +kernel
theorem dX1_evaluate_280 : decode cX1_evaluate 280 = .ok (.iload 8, 2) := by decide +kernel
theorem dX1_evaluate_282 : decode cX1_evaluate 282 = .ok (.lload_n 3, 1) := by decide +kernel
theorem dX1_evaluate_283 : decode cX1_evaluate 283 = .ok (.invokevirtual 91, 3) := by decide +kernel
theorem dX1_evaluate_286 : decode cX1_evaluate 286 = .ok (.aload_n 0, 1) := by decide +kernel
theorem dX1_evaluate_287 : decode cX1_evaluate 287 = .ok (.getfield 11, 3) := by decide +kernel
theorem dX1_evaluate_290 : decode cX1_evaluate 290 = .ok (.iload 5, 2) := by decide +kernel
theorem dX1_evaluate_292 : decode cX1_evaluate 292 = .ok (.aload_n 0, 1) := by decide +kernel
theorem dX1_evaluate_293 : decode cX1_evaluate 293 = .ok (.getfield 49, 3) := by decide +kernel
theorem dX1_evaluate_296 : decode cX1_evaluate 296 = .ok (.aload_n 2, 1) := by decide +kernel
theorem dX1_evaluate_297 : decode cX1_evaluate 297 = .ok (.iload 8, 2) := by decide +kernel
theorem dX1_evaluate_299 : decode cX1_evaluate 299 = .ok (.iconst (-1), 1) := by decide +kernel
theorem dX1_evaluate_300 : decode cX1_evaluate 300 = .ok (.invokevirtual 95, 3) := by decide +kernel
theorem dX1_evaluate_303 : decode cX1_evaluate 303 = .ok (.lastore, 1) := by decide +kernel
theorem dX1_evaluate_304 : decode cX1_evaluate 304 = .ok (.goto 121, 3) := by decide +kernel
theorem dX1_evaluate_307 : decode cX1_evaluate 307 = .ok (.iload 5, 2) := by decide +kernel
theorem dX1_evaluate_309 : decode cX1_evaluate 309 = .ok (.iconst 1, 1) := by decide +kernel
theorem dX1_evaluate_310 : decode cX1_evaluate 310 = .ok (.iadd, 1) := by decide +kernel
theorem dX1_evaluate_311 : decode cX1_evaluate 311 = .ok (.bipush 95, 2) := by decide +kernel
theorem dX1_evaluate_313 : decode cX1_evaluate 313 = .ok (.invokestatic 88, 3) := by decide +kernel
theorem dX1_evaluate_316 : decode cX1_evaluate 316 = .ok (.istore 5, 2) := by decide +kernel
theorem dX1_evaluate_318 : decode cX1_evaluate 318 = .ok (.aload_n 0, 1) := by decide +kernel
theorem dX1_evaluate_319 : decode cX1_evaluate 319 = .ok (.getfield 49, 3) := by decide +kernel
theorem dX1_evaluate_322 : decode cX1_evaluate 322 = .ok (.aload_n 2, 1) := by decide +kernel
theorem dX1_evaluate_323 : decode cX1_evaluate 323 = .ok (.iload 8, 2) := by decide +kernel
theorem dX1_evaluate_325 : decode cX1_evaluate 325 = .ok (.bipush 8, 2) := by decide +kernel
theorem dX1_evaluate_327 : decode cX1_evaluate 327 = .ok (.idiv, 1) := by decide +kernel
theorem dX1_evaluate_328 : decode cX1_evaluate 328 = .ok (.lload_n 3, 1) := by decide +kernel
theorem dX1_evaluate_329 : decode cX1_evaluate 329 = .ok (.invokevirtual 91, 3) := by decide +kernel
theorem dX1_evaluate_332 : decode cX1_evaluate 332 = .ok (.aload_n 0, 1) := by decide +kernel
theorem dX1_evaluate_333 : decode cX1_evaluate 333 = .ok (.getfield 11, 3) := by decide +kernel
theorem dX1_evaluate_336 : decode cX1_evaluate 336 = .ok (.iload 5, 2) := by decide +kernel
theorem dX1_evaluate_338 : decode cX1_evaluate 338 = .ok (.aload_n 0, 1) := by decide +kernel
theorem dX1_evaluate_339 : decode cX1_evaluate 339 = .ok (.getfield 49, 3) := by decide +kernel
theorem dX1_evaluate_342 : decode cX1_evaluate 342 = .ok (.aload_n 2, 1) := by decide +kernel
theorem dX1_evaluate_343 : decode cX1_evaluate 343 = .ok (.iload 8, 2) := by decide +kernel
theorem dX1_evaluate_345 : decode cX1_evaluate 345 = .ok (.bipush 8, 2) := by decide +kernel
theorem dX1_evaluate_347 : decode cX1_evaluate 347 = .ok (.idiv, 1) := by decide +kernel
theorem dX1_evaluate_348 : decode cX1_evaluate 348 = .ok (.iload 8, 2) := by decide +kernel
theorem dX1_evaluate_350 : decode cX1_evaluate 350 = .ok (.bipush 8, 2) := by decide +kernel
theorem dX1_evaluate_352 : decode cX1_evaluate 352 = .ok (.irem, 1) := by decide +kernel
theorem dX1_evaluate_353 : decode cX1_evaluate 353 = .ok (.invokevirtual 95, 3) := by decide +kernel
theorem dX1_evaluate_356 : decode cX1_evaluate 356 = .ok (.lastore, 1) := by decide +kernel
theorem dX1_evaluate_357 : decode cX1_evaluate 357 = .ok (.goto 68, 3) := by decide +kernel
theorem dX1_evaluate_360 : decode cX1_evaluate 360 = .ok (.iload 5, 2) := by decide +kernel
theorem dX1_evaluate_362 : decode cX1_evaluate 362 = .ok (.iconst 1, 1) := by decide +kernel
theorem dX1_evaluate_363 : decode cX1_evaluate 363 = .ok (.iadd, 1) := by decide +kernel
theorem dX1_evaluate_364 : decode cX1_evaluate 364 = .ok (.bipush 95, 2) := by decide +kernel
theorem dX1_evaluate_366 : decode cX1_evaluate 366 = .ok (.invokestatic 88, 3) := by decide +kernel
theorem dX1_evaluate_369 : decode cX1_evaluate 369 = .ok (.istore 5, 2) := by decide +kernel
theorem dX1_evaluate_371 : decode cX1_evaluate 371 = .ok (.aload_n 0, 1) := by decide +kernel
theorem dX1_evaluate_372 : decode cX1_evaluate 372 = .ok (.getfield 11, 3) := by decide +kernel
theorem dX1_evaluate_375 : decode cX1_evaluate 375 = .ok (.iload 5, 2) := by decide +kernel
theorem dX1_evaluate_377 : decode cX1_evaluate 377 = .ok (.aload_n 2, 1) := by decide +kernel
theorem dX1_evaluate_378 : decode cX1_evaluate 378 = .ok (.aload_n 2, 1) := by decide +kernel
theorem dX1_evaluate_379 : decode cX1_evaluate 379 = .ok (.getfield 99, 3) := by decide +kernel
theorem dX1_evaluate_382 : decode cX1_evaluate 382 = .ok (.invokevirtual 104, 3) := by decide +kernel
theorem dX1_evaluate_385 : decode cX1_evaluate 385 = .ok (.ifCond .eq 7, 3) := by decide +kernel
theorem dX1_evaluate_388 : decode cX1_evaluate 388 = .ok (.lconst 1, 1) := by decide +kernel
theorem dX1_evaluate_389 : decode cX1_evaluate 389 = .ok (.goto 4, 3) := by decide +kernel
theorem dX1_evaluate_392 : decode cX1_evaluate 392 = .ok (.lconst 0, 1) := by decide +kernel
theorem dX1_evaluate_393 : decode cX1_evaluate 393 = .ok (.lastore, 1) := by decide +kernel
theorem dX1_evaluate_394 : decode cX1_evaluate 394 = .ok (.goto 31, 3) := by decide +kernel
theorem dX1_evaluate_397 : decode cX1_evaluate 397 = .ok (.iload 5, 2) := by decide +kernel
theorem dX1_evaluate_399 : decode cX1_evaluate 399 = .ok (.iconst 1, 1) := by decide +kernel
theorem dX1_evaluate_400 : decode cX1_evaluate 400 = .ok (.iadd, 1) := by decide +kernel
theorem dX1_evaluate_401 : decode cX1_evaluate 401 = .ok (.bipush 95, 2) := by decide +kernel
theorem dX1_evaluate_403 : decode cX1_evaluate 403 = .ok (.invokestatic 88, 3) := by decide +kernel
theorem dX1_evaluate_406 : decode cX1_evaluate 406 = .ok (.istore 5, 2) := by decide +kernel
theorem dX1_evaluate_408 : decode cX1_evaluate 408 = .ok (.aload_n 0, 1) := by decide +kernel
theorem dX1_evaluate_409 : decode cX1_evaluate 409 = .ok (.getfield 11, 3) := by decide +kernel
theorem dX1_evaluate_412 : decode cX1_evaluate 412 = .ok (.iload 5, 2) := by decide +kernel
theorem dX1_evaluate_414 : decode cX1_evaluate 414 = .ok (.lload_n 3, 1) := by decide +kernel
theorem dX1_evaluate_415 : decode cX1_evaluate 415 = .ok (.iload 7, 2) := by decide +kernel
theorem dX1_evaluate_417 : decode cX1_evaluate 417 = .ok (.iload 8, 2) := by decide +kernel
theorem dX1_evaluate_419 : decode cX1_evaluate 419 = .ok (.aload_n 2, 1) := by decide +kernel
theorem dX1_evaluate_420 : decode cX1_evaluate 420 = .ok (.invokestatic 108, 3) := by decide +kernel
theorem dX1_evaluate_423 : decode cX1_evaluate 423 = .ok (.land, 1) := by decide +kernel
theorem dX1_evaluate_424 : decode cX1_evaluate 424 = .ok (.lastore, 1) := by decide +kernel
theorem dX1_evaluate_425 : decode cX1_evaluate 425 = .ok (.iinc 6 1, 3) := by decide +kernel
theorem dX1_evaluate_428 : decode cX1_evaluate 428 = .ok (.goto (-422), 3) := by decide +kernel
theorem dX1_evaluate_431 : decode cX1_evaluate 431 = .ok (.iload 6, 2) := by decide +kernel
theorem dX1_evaluate_433 : decode cX1_evaluate 433 = .ok (.ireturn, 1) := by decide +kernel
abbrev rm_f_X1_evaluate : Room := { frames := 3, cells := 0, slots := 0, locals := 94 }
def f_X1_evaluate_L6 (N : Nat) (o2 : Nat) (K5 : (Int → St → Option (Int × St))) (y1 : Int64) : Nat → Int → Int → St → Option (Int × St)
  | 0, _, _, _ => none
  | n9 + 1, x2, x3, t4 =>
    lt1 (t4.1 302 18) fun v6 =>
    cmpI x3 v6 (if x3 < v6 then (bdI (f_X0_kindAt N x3 t4) fun v8 t7 =>
    cmpI v8 16 (if 16 < v8 then (K5 x3 t7)
    else (bdI (f_X0_kindAt N x3 t7) fun v10 t9 =>
    bdI (f_X0_valueAt N x3 t9) fun v12 t11 =>
    cmpI x2 0 (
    jn1 (fun (j13 : Int) (t14 : St) => f_X1_evaluate_L6 N o2 K5 y1 n9 j13 (x3 + 1) t14) fun J15 =>
    rnI v10 (if v10 = 8 then (cmpI (x2 + 1) 95 (
    bdV (f_X2_findGreedy N o2 v12 y1 t11) fun t16 =>
    bdL (f_X2_inGreedy N o2 v12 (-1) t16) fun v18 t17 =>
    ixI (min (x2 + 1) 95) 96 (lt1 (pL t17 370 (min (x2 + 1) 95).toNat v18) fun t19 =>
    J15 (min (x2 + 1) 95) t19)))
    else (if v10 = 9 then (cmpI (x2 + 1) 95 (
    dvI v12 8 (
    bdV (f_X2_findGreedy N o2 (v12 / 8) y1 t11) fun t20 =>
    dvI v12 8 (
    dvI v12 8 (
    bdL (f_X2_inGreedy N o2 (v12 / 8) (v12 % 8) t20) fun v22 t21 =>
    ixI (min (x2 + 1) 95) 96 (lt1 (pL t21 370 (min (x2 + 1) 95).toNat v22) fun t23 =>
    J15 (min (x2 + 1) 95) t23))))))
    else (if v10 = 10 then (cmpI (x2 - 1) 0 (
    ixI (max (x2 - 1) 0) 96 (lt1 (t11.2 370 (max (x2 - 1) 0).toNat) fun v24 =>
    ixI ((max (x2 - 1) 0) + 1) 96 (lt1 (t11.2 370 ((max (x2 - 1) 0) + 1).toNat) fun v25 =>
    bdL (f_X1_joined N v10 v24 v25 t11) fun v27 t26 =>
    ixI (max (x2 - 1) 0) 96 (lt1 (pL t26 370 (max (x2 - 1) 0).toNat v27) fun t28 =>
    J15 (max (x2 - 1) 0) t28)))))
    else (if v10 = 11 then (cmpI (x2 - 1) 0 (
    ixI (max (x2 - 1) 0) 96 (lt1 (t11.2 370 (max (x2 - 1) 0).toNat) fun v29 =>
    ixI ((max (x2 - 1) 0) + 1) 96 (lt1 (t11.2 370 ((max (x2 - 1) 0) + 1).toNat) fun v30 =>
    bdL (f_X1_joined N v10 v29 v30 t11) fun v32 t31 =>
    ixI (max (x2 - 1) 0) 96 (lt1 (pL t31 370 (max (x2 - 1) 0).toNat v32) fun t33 =>
    J15 (max (x2 - 1) 0) t33)))))
    else (if v10 = 12 then (ixI (max x2 0) 96 (lt1 (t11.2 370 (max x2 0).toNat) fun v34 =>
    ixI (max x2 0) 96 (lt1 (pL t11 370 (max x2 0).toNat (y1 &&& (v34 ^^^ (-1 : Int64)))) fun t35 =>
    J15 x2 t35)))
    else (if v10 = 13 then (cmpI (x2 + 1) 95 (
    bdI (f_X3_isAt N o2 (394 + 10 * o2) 64 t11) fun v37 t36 =>
    jn1 (fun (j38 : Int64) (t39 : St) => ixI (min (x2 + 1) 95) 96 (lt1 (pL t39 370 (min (x2 + 1) 95).toNat j38) fun t41 =>
    J15 (min (x2 + 1) 95) t41)) fun J40 =>
    cmpI v37 0 (if v37 = 0 then (J40 (0 : Int64) t36)
    else (J40 (1 : Int64) t36))))
    else (if v10 = 14 then (ixI (max x2 0) 96 (lt1 (t11.2 370 (max x2 0).toNat) fun v42 =>
    bdI (f_J13_bitCount_95d88 N v42 t11) fun v44 t43 =>
    jn1 (fun (j45 : Int64) (t46 : St) => ixI (max x2 0) 96 (lt1 (pL t46 370 (max x2 0).toNat j45) fun t48 =>
    J15 x2 t48)) fun J47 =>
    cmpI v44 v12 (if v44 = v12 then (J47 (1 : Int64) t43)
    else (J47 (0 : Int64) t43))))
    else (if v10 = 15 then (ixI (max x2 0) 96 (lt1 (t11.2 370 (max x2 0).toNat) fun v49 =>
    bdI (f_X2_part N o2 v12 v49 t11) fun v51 t50 =>
    jn1 (fun (j52 : Int64) (t53 : St) => ixI (max x2 0) 96 (lt1 (pL t53 370 (max x2 0).toNat j52) fun t55 =>
    J15 x2 t55)) fun J54 =>
    cmpI v51 0 (if v51 = 0 then (J54 (1 : Int64) t50)
    else (J54 (0 : Int64) t50))))
    else (if v10 = 16 then (ixI (max x2 0) 96 (lt1 (t11.2 370 (max x2 0).toNat) fun v56 =>
    ixI (max x2 0) 96 (lt1 (pL t11 370 (max x2 0).toNat ((1 : Int64) - v56)) fun t57 =>
    J15 x2 t57)))
    else (cmpI (x2 + 1) 95 (
    bdL (f_X1_plainly N o2 v10 v12 t11) fun v59 t58 =>
    ixI (min (x2 + 1) 95) 96 (lt1 (pL t58 370 (min (x2 + 1) 95).toNat (y1 &&& v59)) fun t60 =>
    J15 (min (x2 + 1) 95) t60))))))))))))))))
    else (K5 x3 t4))
def f_X1_evaluate (N : Nat) (o2 : Nat) (a0 : Int) (a2 : Int64) (t : St) : Option (Int × St) :=
    f_X1_evaluate_L6 N o2 (fun (k61 : Int) (t62 : St) => some (k61, t62)) a2 N (-1) a0 t
set_option maxHeartbeats 4000000 in
set_option maxRecDepth 100000 in
theorem t_f_X1_evaluate_L6 {p : Program} {l : Launch} {e : Env} {s : State} {m : MethodId} {args : Array Value} {below : List Frame} {meth : Method} {c : Code} {E : cE} {A : Nat → Prop} {r : Nat → Nat} {mc ms : Nat} {z : Int × St} {o2 : Nat} (ho2 : o2 < 2) {N : Nat} {K5 : (Int → St → Option (Int × St))} {y1 : Int64} (X : gX p s m meth c cX1_evaluate 10 (some .int) yX1_evaluate args E A) (hK5 : ∀ (q6 : Int) (t9 : St), K5 q6 t9 = some z → gP p l e rm_f_X1_evaluate s m args below meth c E A 10 (MQ below ((gqI E (gW E r shH) z) A) args s mc ms A) (gW E r shH) 431 [(6, iv q6)] [] t9) : ∀ (n9 : Nat) (x2 : Int) (x3 : Int) (t4 : St), f_X1_evaluate_L6 N o2 K5 y1 n9 x2 x3 t4 = some z → gP p l e rm_f_X1_evaluate s m args below meth c E A 10 (MQ below ((gqI E (gW E r shH) z) A) args s mc ms A) (gW E r shH) 6 [(0, .ref (r 304)), (2, .ref (r (305 + o2))), (3, .long y1), (5, iv x2), (6, iv x3)] [] t4 := by
  intro n9
  induction n9 with
  | zero => intro x2 x3 t4 h; cases h
  | succ n9 ih =>
    intro x2 x3 t4 h
    unfold f_X1_evaluate_L6 at h
    refine g_iload X dX1_evaluate_6 4 rfl ?_
    refine g_aload_n X dX1_evaluate_8 0 rfl ?_
    refine g_getR X fH_X1_40_304 rfl dX1_evaluate_9 ?_
    refine g_getI X fH_X1_53_302 rfl dX1_evaluate_12 h (fun v6 h => ?_)
    refine g_icmp_ge (tgt := 431) X dX1_evaluate_15 (by decide) h (fun h => ?_) (fun h => ?_)
    · exact g_sub (lv' := [(6, iv x3)]) [4] rfl (hK5 x3 t4 h)
    · refine g_aload_n X dX1_evaluate_18 0 rfl ?_
      refine g_getR X fH_X1_40_304 rfl dX1_evaluate_19 ?_
      refine g_iload X dX1_evaluate_22 4 rfl ?_
      refine g_callOI (rest := []) X (fun u9 h9 => cp_X0_kindAt l E r N x3 t4 u9 h9) yy_X0_kindAt yi_X0_kindAt wdM_RX1_59 ⟨_, _, oH_302⟩ rfl rfl rfl (Nat.le_of_ble_eq_true rfl) dX1_evaluate_24 ⟨by decide, by decide⟩ ⟨rfl, rfl⟩ h (fun v8 t7 h => ?_)
      refine g_bipush X dX1_evaluate_27 (by decide) ?_
      refine g_icmp_gt (tgt := 431) X dX1_evaluate_29 (by decide) h (fun h => ?_) (fun h => ?_)
      · exact g_sub (lv' := [(6, iv x3)]) [4] rfl (hK5 x3 t7 h)
      · refine g_aload_n X dX1_evaluate_32 0 rfl ?_
        refine g_getR X fH_X1_40_304 rfl dX1_evaluate_33 ?_
        refine g_iload X dX1_evaluate_36 4 rfl ?_
        refine g_callOI (rest := []) X (fun u9 h9 => cp_X0_kindAt l E r N x3 t7 u9 h9) yy_X0_kindAt yi_X0_kindAt wdM_RX1_59 ⟨_, _, oH_302⟩ rfl rfl rfl (Nat.le_of_ble_eq_true rfl) dX1_evaluate_38 ⟨by decide, by decide⟩ ⟨rfl, rfl⟩ h (fun v10 t9 h => ?_)
        refine g_istore (lv' := [(7, iv v10), (0, .ref (r 304)), (2, .ref (r (305 + o2))), (3, .long y1), (5, iv x2), (6, iv x3)]) X dX1_evaluate_41 (by decide) rfl ?_
        refine g_aload_n X dX1_evaluate_43 1 rfl ?_
        refine g_getR X fH_X1_40_304 rfl dX1_evaluate_44 ?_
        refine g_iload X dX1_evaluate_47 5 rfl ?_
        refine g_callOI (rest := []) X (fun u9 h9 => cp_X0_valueAt l E r N x3 t9 u9 h9) yy_X0_valueAt yi_X0_valueAt wdM_RX1_63 ⟨_, _, oH_302⟩ rfl rfl rfl (Nat.le_of_ble_eq_true rfl) dX1_evaluate_49 ⟨by decide, by decide⟩ ⟨rfl, rfl⟩ h (fun v12 t11 h => ?_)
        refine g_istore (lv' := [(8, iv v12), (7, iv v10), (0, .ref (r 304)), (2, .ref (r (305 + o2))), (3, .long y1), (5, iv x2), (6, iv x3)]) X dX1_evaluate_52 (by decide) rfl ?_
        refine g_iload X dX1_evaluate_54 5 rfl ?_
        refine g_iconst X dX1_evaluate_56 ?_
        refine g_mmax X wdM_RX1_66 (by decide) (Nat.le_of_ble_eq_true rfl) dX1_evaluate_57 h (fun h => ?_)
        refine g_istore (lv' := [(9, iv (max x2 0)), (8, iv v12), (7, iv v10), (0, .ref (r 304)), (2, .ref (r (305 + o2))), (3, .long y1), (5, iv x2), (6, iv x3)]) X dX1_evaluate_60 (by decide) rfl ?_
        refine g_iload X dX1_evaluate_62 2 rfl ?_
        refine g_join (J := fun jj => ∀ (j13 : Int) (t14 : St), jj j13 t14 = some z → gP p l e rm_f_X1_evaluate s m args below meth c E A 10 (MQ below ((gqI E (gW E r shH) z) A) args s mc ms A) (gW E r shH) 425 [(0, .ref (r 304)), (2, .ref (r (305 + o2))), (3, .long y1), (5, iv j13), (6, iv x3)] [] t14) h (fun j13 t14 h => ?_) (fun J15 hJ15 h => ?_)
        · refine g_iinc (lv' := [(6, iv (x3 + 1)), (0, .ref (r 304)), (2, .ref (r (305 + o2))), (3, .long y1), (5, iv j13)]) X dX1_evaluate_425 (k := 4) rfl (by decide) rfl ?_
          refine g_goto (tgt := 6) X dX1_evaluate_428 (by decide) ?_
          exact g_sub (lv' := [(0, .ref (r 304)), (2, .ref (r (305 + o2))), (3, .long y1), (5, iv j13), (6, iv (x3 + 1))]) [1, 2, 3, 4, 0] rfl (ih j13 (x3 + 1) t14 h)
        obtain ⟨hr9, h⟩ := rnI_some h
        by_cases e9_8 : v10 = 8
        · rw [if_pos e9_8] at h
          refine g_tableIn X (tgt := 264) (off := 200) dX1_evaluate_64 (k := 8) hr9 e9_8 (by decide) (by decide) rfl (by decide) ?_
          refine g_iload X dX1_evaluate_264 6 rfl ?_
          refine g_iconst X dX1_evaluate_266 ?_
          refine g_iadd X dX1_evaluate_267 ?_
          refine g_bipush X dX1_evaluate_268 (by decide) ?_
          refine g_mmin X wdM_RX1_88 (by decide) (Nat.le_of_ble_eq_true rfl) dX1_evaluate_270 h (fun h => ?_)
          refine g_istore (lv' := [(5, iv (min (x2 + 1) 95)), (9, iv (max x2 0)), (8, iv v12), (7, iv v10), (0, .ref (r 304)), (2, .ref (r (305 + o2))), (3, .long y1), (6, iv x3)]) X dX1_evaluate_273 (by decide) rfl ?_
          refine g_aload_n X dX1_evaluate_275 4 rfl ?_
          refine g_getR X fH_X1_49_304 rfl dX1_evaluate_276 ?_
          refine g_aload_n X dX1_evaluate_279 5 rfl ?_
          refine g_iload X dX1_evaluate_280 2 rfl ?_
          refine g_lload_n X dX1_evaluate_282 6 rfl ?_
          refine g_callOV (rest := []) X (fun u9 h9 => cp_X2_findGreedy l E r N o2 ho2 v12 y1 t11 u9 h9) yy_X2_findGreedy yi_X2_findGreedy wdM_RX1_91 ⟨_, _, oH_311⟩ rfl rfl rfl (Nat.le_of_ble_eq_true rfl) dX1_evaluate_283 ⟨by decide, by decide⟩ ⟨rfl, rfl⟩ h (fun t16 h => ?_)
          refine g_aload_n X dX1_evaluate_286 4 rfl ?_
          refine g_getR X fH_X1_11_304 rfl dX1_evaluate_287 ?_
          refine g_iload X dX1_evaluate_290 0 rfl ?_
          refine g_aload_n X dX1_evaluate_292 4 rfl ?_
          refine g_getR X fH_X1_49_304 rfl dX1_evaluate_293 ?_
          refine g_aload_n X dX1_evaluate_296 5 rfl ?_
          refine g_iload X dX1_evaluate_297 2 rfl ?_
          refine g_iconst X dX1_evaluate_299 ?_
          refine g_callOL (rest := [iv (min (x2 + 1) 95), .ref (r 370)]) X (fun u9 h9 => cp_X2_inGreedy l E r N o2 ho2 v12 (-1) t16 u9 h9) yy_X2_inGreedy yi_X2_inGreedy wdM_RX1_95 ⟨_, _, oH_311⟩ rfl rfl rfl (Nat.le_of_ble_eq_true rfl) dX1_evaluate_300 ⟨by decide, by decide⟩ ⟨rfl, rfl⟩ h (fun v18 t17 h => ?_)
          refine g_last X aH_370 dX1_evaluate_303 h (fun t19 h => ?_)
          refine g_goto (tgt := 425) X dX1_evaluate_304 (by decide) ?_
          exact g_sub (lv' := [(0, .ref (r 304)), (2, .ref (r (305 + o2))), (3, .long y1), (5, iv (min (x2 + 1) 95)), (6, iv x3)]) [4, 5, 6, 0, 7] rfl (hJ15 (min (x2 + 1) 95) t19 h)
        · rw [if_neg e9_8] at h
          by_cases e9_9 : v10 = 9
          · rw [if_pos e9_9] at h
            refine g_tableIn X (tgt := 307) (off := 243) dX1_evaluate_64 (k := 9) hr9 e9_9 (by decide) (by decide) rfl (by decide) ?_
            refine g_iload X dX1_evaluate_307 6 rfl ?_
            refine g_iconst X dX1_evaluate_309 ?_
            refine g_iadd X dX1_evaluate_310 ?_
            refine g_bipush X dX1_evaluate_311 (by decide) ?_
            refine g_mmin X wdM_RX1_88 (by decide) (Nat.le_of_ble_eq_true rfl) dX1_evaluate_313 h (fun h => ?_)
            refine g_istore (lv' := [(5, iv (min (x2 + 1) 95)), (9, iv (max x2 0)), (8, iv v12), (7, iv v10), (0, .ref (r 304)), (2, .ref (r (305 + o2))), (3, .long y1), (6, iv x3)]) X dX1_evaluate_316 (by decide) rfl ?_
            refine g_aload_n X dX1_evaluate_318 4 rfl ?_
            refine g_getR X fH_X1_49_304 rfl dX1_evaluate_319 ?_
            refine g_aload_n X dX1_evaluate_322 5 rfl ?_
            refine g_iload X dX1_evaluate_323 2 rfl ?_
            refine g_bipush X dX1_evaluate_325 (by decide) ?_
            refine g_idiv X dX1_evaluate_327 h (fun h => ?_)
            refine g_lload_n X dX1_evaluate_328 6 rfl ?_
            refine g_callOV (rest := []) X (fun u9 h9 => cp_X2_findGreedy l E r N o2 ho2 (v12 / 8) y1 t11 u9 h9) yy_X2_findGreedy yi_X2_findGreedy wdM_RX1_91 ⟨_, _, oH_311⟩ rfl rfl rfl (Nat.le_of_ble_eq_true rfl) dX1_evaluate_329 ⟨by decide, by decide⟩ ⟨rfl, rfl⟩ h (fun t20 h => ?_)
            refine g_aload_n X dX1_evaluate_332 4 rfl ?_
            refine g_getR X fH_X1_11_304 rfl dX1_evaluate_333 ?_
            refine g_iload X dX1_evaluate_336 0 rfl ?_
            refine g_aload_n X dX1_evaluate_338 4 rfl ?_
            refine g_getR X fH_X1_49_304 rfl dX1_evaluate_339 ?_
            refine g_aload_n X dX1_evaluate_342 5 rfl ?_
            refine g_iload X dX1_evaluate_343 2 rfl ?_
            refine g_bipush X dX1_evaluate_345 (by decide) ?_
            refine g_idiv X dX1_evaluate_347 h (fun h => ?_)
            refine g_iload X dX1_evaluate_348 2 rfl ?_
            refine g_bipush X dX1_evaluate_350 (by decide) ?_
            refine g_irem X dX1_evaluate_352 h (fun h => ?_)
            refine g_callOL (rest := [iv (min (x2 + 1) 95), .ref (r 370)]) X (fun u9 h9 => cp_X2_inGreedy l E r N o2 ho2 (v12 / 8) (v12 % 8) t20 u9 h9) yy_X2_inGreedy yi_X2_inGreedy wdM_RX1_95 ⟨_, _, oH_311⟩ rfl rfl rfl (Nat.le_of_ble_eq_true rfl) dX1_evaluate_353 ⟨by decide, by decide⟩ ⟨rfl, rfl⟩ h (fun v22 t21 h => ?_)
            refine g_last X aH_370 dX1_evaluate_356 h (fun t23 h => ?_)
            refine g_goto (tgt := 425) X dX1_evaluate_357 (by decide) ?_
            exact g_sub (lv' := [(0, .ref (r 304)), (2, .ref (r (305 + o2))), (3, .long y1), (5, iv (min (x2 + 1) 95)), (6, iv x3)]) [4, 5, 6, 0, 7] rfl (hJ15 (min (x2 + 1) 95) t23 h)
          · rw [if_neg e9_9] at h
            by_cases e9_10 : v10 = 10
            · rw [if_pos e9_10] at h
              refine g_tableIn X (tgt := 116) (off := 52) dX1_evaluate_64 (k := 10) hr9 e9_10 (by decide) (by decide) rfl (by decide) ?_
              refine g_iload X dX1_evaluate_116 6 rfl ?_
              refine g_iconst X dX1_evaluate_118 ?_
              refine g_isub X dX1_evaluate_119 ?_
              refine g_iconst X dX1_evaluate_120 ?_
              refine g_mmax X wdM_RX1_66 (by decide) (Nat.le_of_ble_eq_true rfl) dX1_evaluate_121 h (fun h => ?_)
              refine g_istore (lv' := [(5, iv (max (x2 - 1) 0)), (9, iv (max x2 0)), (8, iv v12), (7, iv v10), (0, .ref (r 304)), (2, .ref (r (305 + o2))), (3, .long y1), (6, iv x3)]) X dX1_evaluate_124 (by decide) rfl ?_
              refine g_aload_n X dX1_evaluate_126 4 rfl ?_
              refine g_getR X fH_X1_11_304 rfl dX1_evaluate_127 ?_
              refine g_iload X dX1_evaluate_130 0 rfl ?_
              refine g_iload X dX1_evaluate_132 3 rfl ?_
              refine g_aload_n X dX1_evaluate_134 4 rfl ?_
              refine g_getR X fH_X1_11_304 rfl dX1_evaluate_135 ?_
              refine g_iload X dX1_evaluate_138 0 rfl ?_
              refine g_lald X aH_370 dX1_evaluate_140 h (fun v24 h => ?_)
              refine g_aload_n X dX1_evaluate_141 4 rfl ?_
              refine g_getR X fH_X1_11_304 rfl dX1_evaluate_142 ?_
              refine g_iload X dX1_evaluate_145 0 rfl ?_
              refine g_iconst X dX1_evaluate_147 ?_
              refine g_iadd X dX1_evaluate_148 ?_
              refine g_lald X aH_370 dX1_evaluate_149 h (fun v25 h => ?_)
              refine g_callsL (rest := [iv (max (x2 - 1) 0), .ref (r 370)]) X (fun u9 h9 => cp_X1_joined l E r N v10 v24 v25 t11 u9 h9) yy_X1_joined wdT_X1_joined wdM_RX1_72 rfl rfl (Nat.le_of_ble_eq_true rfl) dX1_evaluate_150 ⟨by decide, by decide⟩ ⟨rfl, rfl⟩ h (fun v27 t26 h => ?_)
              refine g_last X aH_370 dX1_evaluate_153 h (fun t28 h => ?_)
              refine g_goto (tgt := 425) X dX1_evaluate_154 (by decide) ?_
              exact g_sub (lv' := [(0, .ref (r 304)), (2, .ref (r (305 + o2))), (3, .long y1), (5, iv (max (x2 - 1) 0)), (6, iv x3)]) [4, 5, 6, 0, 7] rfl (hJ15 (max (x2 - 1) 0) t28 h)
            · rw [if_neg e9_10] at h
              by_cases e9_11 : v10 = 11
              · rw [if_pos e9_11] at h
                refine g_tableIn X (tgt := 116) (off := 52) dX1_evaluate_64 (k := 11) hr9 e9_11 (by decide) (by decide) rfl (by decide) ?_
                refine g_iload X dX1_evaluate_116 6 rfl ?_
                refine g_iconst X dX1_evaluate_118 ?_
                refine g_isub X dX1_evaluate_119 ?_
                refine g_iconst X dX1_evaluate_120 ?_
                refine g_mmax X wdM_RX1_66 (by decide) (Nat.le_of_ble_eq_true rfl) dX1_evaluate_121 h (fun h => ?_)
                refine g_istore (lv' := [(5, iv (max (x2 - 1) 0)), (9, iv (max x2 0)), (8, iv v12), (7, iv v10), (0, .ref (r 304)), (2, .ref (r (305 + o2))), (3, .long y1), (6, iv x3)]) X dX1_evaluate_124 (by decide) rfl ?_
                refine g_aload_n X dX1_evaluate_126 4 rfl ?_
                refine g_getR X fH_X1_11_304 rfl dX1_evaluate_127 ?_
                refine g_iload X dX1_evaluate_130 0 rfl ?_
                refine g_iload X dX1_evaluate_132 3 rfl ?_
                refine g_aload_n X dX1_evaluate_134 4 rfl ?_
                refine g_getR X fH_X1_11_304 rfl dX1_evaluate_135 ?_
                refine g_iload X dX1_evaluate_138 0 rfl ?_
                refine g_lald X aH_370 dX1_evaluate_140 h (fun v29 h => ?_)
                refine g_aload_n X dX1_evaluate_141 4 rfl ?_
                refine g_getR X fH_X1_11_304 rfl dX1_evaluate_142 ?_
                refine g_iload X dX1_evaluate_145 0 rfl ?_
                refine g_iconst X dX1_evaluate_147 ?_
                refine g_iadd X dX1_evaluate_148 ?_
                refine g_lald X aH_370 dX1_evaluate_149 h (fun v30 h => ?_)
                refine g_callsL (rest := [iv (max (x2 - 1) 0), .ref (r 370)]) X (fun u9 h9 => cp_X1_joined l E r N v10 v29 v30 t11 u9 h9) yy_X1_joined wdT_X1_joined wdM_RX1_72 rfl rfl (Nat.le_of_ble_eq_true rfl) dX1_evaluate_150 ⟨by decide, by decide⟩ ⟨rfl, rfl⟩ h (fun v32 t31 h => ?_)
                refine g_last X aH_370 dX1_evaluate_153 h (fun t33 h => ?_)
                refine g_goto (tgt := 425) X dX1_evaluate_154 (by decide) ?_
                exact g_sub (lv' := [(0, .ref (r 304)), (2, .ref (r (305 + o2))), (3, .long y1), (5, iv (max (x2 - 1) 0)), (6, iv x3)]) [4, 5, 6, 0, 7] rfl (hJ15 (max (x2 - 1) 0) t33 h)
              · rw [if_neg e9_11] at h
                by_cases e9_12 : v10 = 12
                · rw [if_pos e9_12] at h
                  refine g_tableIn X (tgt := 157) (off := 93) dX1_evaluate_64 (k := 12) hr9 e9_12 (by decide) (by decide) rfl (by decide) ?_
                  refine g_aload_n X dX1_evaluate_157 3 rfl ?_
                  refine g_getR X fH_X1_11_304 rfl dX1_evaluate_158 ?_
                  refine g_iload X dX1_evaluate_161 0 rfl ?_
                  refine g_lload_n X dX1_evaluate_163 5 rfl ?_
                  refine g_aload_n X dX1_evaluate_164 3 rfl ?_
                  refine g_getR X fH_X1_11_304 rfl dX1_evaluate_165 ?_
                  refine g_iload X dX1_evaluate_168 0 rfl ?_
                  refine g_lald X aH_370 dX1_evaluate_170 h (fun v34 h => ?_)
                  refine g_ldc2 X rfl wdL_RX1_76 dX1_evaluate_171 ?_
                  refine g_lxor X dX1_evaluate_174 ?_
                  refine g_land X dX1_evaluate_175 ?_
                  refine g_last X aH_370 dX1_evaluate_176 h (fun t35 h => ?_)
                  refine g_goto (tgt := 425) X dX1_evaluate_177 (by decide) ?_
                  exact g_sub (lv' := [(0, .ref (r 304)), (2, .ref (r (305 + o2))), (3, .long y1), (5, iv x2), (6, iv x3)]) [3, 4, 5, 6, 7] rfl (hJ15 x2 t35 h)
                · rw [if_neg e9_12] at h
                  by_cases e9_13 : v10 = 13
                  · rw [if_pos e9_13] at h
                    refine g_tableIn X (tgt := 360) (off := 296) dX1_evaluate_64 (k := 13) hr9 e9_13 (by decide) (by decide) rfl (by decide) ?_
                    refine g_iload X dX1_evaluate_360 6 rfl ?_
                    refine g_iconst X dX1_evaluate_362 ?_
                    refine g_iadd X dX1_evaluate_363 ?_
                    refine g_bipush X dX1_evaluate_364 (by decide) ?_
                    refine g_mmin X wdM_RX1_88 (by decide) (Nat.le_of_ble_eq_true rfl) dX1_evaluate_366 h (fun h => ?_)
                    refine g_istore (lv' := [(5, iv (min (x2 + 1) 95)), (9, iv (max x2 0)), (8, iv v12), (7, iv v10), (0, .ref (r 304)), (2, .ref (r (305 + o2))), (3, .long y1), (6, iv x3)]) X dX1_evaluate_369 (by decide) rfl ?_
                    refine g_aload_n X dX1_evaluate_371 4 rfl ?_
                    refine g_getR X fH_X1_11_304 rfl dX1_evaluate_372 ?_
                    refine g_iload X dX1_evaluate_375 0 rfl ?_
                    refine g_aload_n X dX1_evaluate_377 5 rfl ?_
                    refine g_aload_n X dX1_evaluate_378 5 rfl ?_
                    refine g_getR X (fH_X1_99_o (o := o2) ho2) rfl dX1_evaluate_379 ?_
                    refine g_callOI (rest := [iv (min (x2 + 1) 95), .ref (r 370)]) X (fun u9 h9 => cp_X3_isAt l E r N o2 ho2 (394 + 10 * o2) 64 (aF_4 (o := o2) ho2) t11 u9 h9) yy_X3_isAt yi_X3_isAt wdM_RX1_104 (oX3 (o := o2) ho2) rfl rfl rfl (Nat.le_of_ble_eq_true rfl) dX1_evaluate_382 ⟨by decide, by decide⟩ ⟨rfl, rfl⟩ h (fun v37 t36 h => ?_)
                    refine g_join (J := fun jj => ∀ (j38 : Int64) (t39 : St), jj j38 t39 = some z → gP p l e rm_f_X1_evaluate s m args below meth c E A 10 (MQ below ((gqI E (gW E r shH) z) A) args s mc ms A) (gW E r shH) 393 [(0, .ref (r 304)), (2, .ref (r (305 + o2))), (3, .long y1), (5, iv (min (x2 + 1) 95)), (6, iv x3)] [.long j38, iv (min (x2 + 1) 95), .ref (r 370)] t39) h (fun j38 t39 h => ?_) (fun J40 hJ40 h => ?_)
                    · refine g_last X aH_370 dX1_evaluate_393 h (fun t41 h => ?_)
                      refine g_goto (tgt := 425) X dX1_evaluate_394 (by decide) ?_
                      exact g_sub (lv' := [(0, .ref (r 304)), (2, .ref (r (305 + o2))), (3, .long y1), (5, iv (min (x2 + 1) 95)), (6, iv x3)]) [0, 1, 2, 3, 4] rfl (hJ15 (min (x2 + 1) 95) t41 h)
                    refine g_if_eq (tgt := 392) X dX1_evaluate_385 (by decide) h (fun h => ?_) (fun h => ?_)
                    · refine g_lconst (v := 0) X dX1_evaluate_392 (by decide) ?_
                      exact g_sub (lv' := [(0, .ref (r 304)), (2, .ref (r (305 + o2))), (3, .long y1), (5, iv (min (x2 + 1) 95)), (6, iv x3)]) [4, 5, 6, 0, 7] rfl (hJ40 (0 : Int64) t36 h)
                    · refine g_lconst (v := 1) X dX1_evaluate_388 (by decide) ?_
                      refine g_goto (tgt := 393) X dX1_evaluate_389 (by decide) ?_
                      exact g_sub (lv' := [(0, .ref (r 304)), (2, .ref (r (305 + o2))), (3, .long y1), (5, iv (min (x2 + 1) 95)), (6, iv x3)]) [4, 5, 6, 0, 7] rfl (hJ40 (1 : Int64) t36 h)
                  · rw [if_neg e9_13] at h
                    by_cases e9_14 : v10 = 14
                    · rw [if_pos e9_14] at h
                      refine g_tableIn X (tgt := 199) (off := 135) dX1_evaluate_64 (k := 14) hr9 e9_14 (by decide) (by decide) rfl (by decide) ?_
                      refine g_aload_n X dX1_evaluate_199 3 rfl ?_
                      refine g_getR X fH_X1_11_304 rfl dX1_evaluate_200 ?_
                      refine g_iload X dX1_evaluate_203 0 rfl ?_
                      refine g_aload_n X dX1_evaluate_205 3 rfl ?_
                      refine g_getR X fH_X1_11_304 rfl dX1_evaluate_206 ?_
                      refine g_iload X dX1_evaluate_209 0 rfl ?_
                      refine g_lald X aH_370 dX1_evaluate_211 h (fun v42 h => ?_)
                      refine g_callsI (rest := [iv (max x2 0), .ref (r 370)]) X (fun u9 h9 => cp_J13_bitCount_95d88 l E r N v42 t11 u9 h9) yy_J13_bitCount_95d88 wdT_J13_bitCount_95d88 wdM_RX1_78 rfl rfl (Nat.le_of_ble_eq_true rfl) dX1_evaluate_212 ⟨by decide, by decide⟩ ⟨rfl, rfl⟩ h (fun v44 t43 h => ?_)
                      refine g_iload X dX1_evaluate_215 1 rfl ?_
                      refine g_join (J := fun jj => ∀ (j45 : Int64) (t46 : St), jj j45 t46 = some z → gP p l e rm_f_X1_evaluate s m args below meth c E A 10 (MQ below ((gqI E (gW E r shH) z) A) args s mc ms A) (gW E r shH) 225 [(0, .ref (r 304)), (2, .ref (r (305 + o2))), (3, .long y1), (5, iv x2), (6, iv x3)] [.long j45, iv (max x2 0), .ref (r 370)] t46) h (fun j45 t46 h => ?_) (fun J47 hJ47 h => ?_)
                      · refine g_last X aH_370 dX1_evaluate_225 h (fun t48 h => ?_)
                        refine g_goto (tgt := 425) X dX1_evaluate_226 (by decide) ?_
                        exact g_sub (lv' := [(0, .ref (r 304)), (2, .ref (r (305 + o2))), (3, .long y1), (5, iv x2), (6, iv x3)]) [0, 1, 2, 3, 4] rfl (hJ15 x2 t48 h)
                      refine g_icmp_ne (tgt := 224) X dX1_evaluate_217 (by decide) h (fun h => ?_) (fun h => ?_)
                      · refine g_lconst (v := 0) X dX1_evaluate_224 (by decide) ?_
                        exact g_sub (lv' := [(0, .ref (r 304)), (2, .ref (r (305 + o2))), (3, .long y1), (5, iv x2), (6, iv x3)]) [3, 4, 5, 6, 7] rfl (hJ47 (0 : Int64) t43 h)
                      · refine g_lconst (v := 1) X dX1_evaluate_220 (by decide) ?_
                        refine g_goto (tgt := 225) X dX1_evaluate_221 (by decide) ?_
                        exact g_sub (lv' := [(0, .ref (r 304)), (2, .ref (r (305 + o2))), (3, .long y1), (5, iv x2), (6, iv x3)]) [3, 4, 5, 6, 7] rfl (hJ47 (1 : Int64) t43 h)
                    · rw [if_neg e9_14] at h
                      by_cases e9_15 : v10 = 15
                      · rw [if_pos e9_15] at h
                        refine g_tableIn X (tgt := 229) (off := 165) dX1_evaluate_64 (k := 15) hr9 e9_15 (by decide) (by decide) rfl (by decide) ?_
                        refine g_aload_n X dX1_evaluate_229 3 rfl ?_
                        refine g_getR X fH_X1_11_304 rfl dX1_evaluate_230 ?_
                        refine g_iload X dX1_evaluate_233 0 rfl ?_
                        refine g_aload_n X dX1_evaluate_235 3 rfl ?_
                        refine g_getR X fH_X1_49_304 rfl dX1_evaluate_236 ?_
                        refine g_aload_n X dX1_evaluate_239 4 rfl ?_
                        refine g_iload X dX1_evaluate_240 1 rfl ?_
                        refine g_aload_n X dX1_evaluate_242 3 rfl ?_
                        refine g_getR X fH_X1_11_304 rfl dX1_evaluate_243 ?_
                        refine g_iload X dX1_evaluate_246 0 rfl ?_
                        refine g_lald X aH_370 dX1_evaluate_248 h (fun v49 h => ?_)
                        refine g_callOI (rest := [iv (max x2 0), .ref (r 370)]) X (fun u9 h9 => cp_X2_part l E r N o2 ho2 v12 v49 t11 u9 h9) yy_X2_part yi_X2_part wdM_RX1_84 ⟨_, _, oH_311⟩ rfl rfl rfl (Nat.le_of_ble_eq_true rfl) dX1_evaluate_249 ⟨by decide, by decide⟩ ⟨rfl, rfl⟩ h (fun v51 t50 h => ?_)
                        refine g_join (J := fun jj => ∀ (j52 : Int64) (t53 : St), jj j52 t53 = some z → gP p l e rm_f_X1_evaluate s m args below meth c E A 10 (MQ below ((gqI E (gW E r shH) z) A) args s mc ms A) (gW E r shH) 260 [(0, .ref (r 304)), (2, .ref (r (305 + o2))), (3, .long y1), (5, iv x2), (6, iv x3)] [.long j52, iv (max x2 0), .ref (r 370)] t53) h (fun j52 t53 h => ?_) (fun J54 hJ54 h => ?_)
                        · refine g_last X aH_370 dX1_evaluate_260 h (fun t55 h => ?_)
                          refine g_goto (tgt := 425) X dX1_evaluate_261 (by decide) ?_
                          exact g_sub (lv' := [(0, .ref (r 304)), (2, .ref (r (305 + o2))), (3, .long y1), (5, iv x2), (6, iv x3)]) [0, 1, 2, 3, 4] rfl (hJ15 x2 t55 h)
                        refine g_if_ne (tgt := 259) X dX1_evaluate_252 (by decide) h (fun h => ?_) (fun h => ?_)
                        · refine g_lconst (v := 0) X dX1_evaluate_259 (by decide) ?_
                          exact g_sub (lv' := [(0, .ref (r 304)), (2, .ref (r (305 + o2))), (3, .long y1), (5, iv x2), (6, iv x3)]) [3, 4, 5, 6, 7] rfl (hJ54 (0 : Int64) t50 h)
                        · refine g_lconst (v := 1) X dX1_evaluate_255 (by decide) ?_
                          refine g_goto (tgt := 260) X dX1_evaluate_256 (by decide) ?_
                          exact g_sub (lv' := [(0, .ref (r 304)), (2, .ref (r (305 + o2))), (3, .long y1), (5, iv x2), (6, iv x3)]) [3, 4, 5, 6, 7] rfl (hJ54 (1 : Int64) t50 h)
                      · rw [if_neg e9_15] at h
                        by_cases e9_16 : v10 = 16
                        · rw [if_pos e9_16] at h
                          refine g_tableIn X (tgt := 180) (off := 116) dX1_evaluate_64 (k := 16) hr9 e9_16 (by decide) (by decide) rfl (by decide) ?_
                          refine g_aload_n X dX1_evaluate_180 3 rfl ?_
                          refine g_getR X fH_X1_11_304 rfl dX1_evaluate_181 ?_
                          refine g_iload X dX1_evaluate_184 0 rfl ?_
                          refine g_lconst (v := 1) X dX1_evaluate_186 (by decide) ?_
                          refine g_aload_n X dX1_evaluate_187 3 rfl ?_
                          refine g_getR X fH_X1_11_304 rfl dX1_evaluate_188 ?_
                          refine g_iload X dX1_evaluate_191 0 rfl ?_
                          refine g_lald X aH_370 dX1_evaluate_193 h (fun v56 h => ?_)
                          refine g_lsub X dX1_evaluate_194 ?_
                          refine g_last X aH_370 dX1_evaluate_195 h (fun t57 h => ?_)
                          refine g_goto (tgt := 425) X dX1_evaluate_196 (by decide) ?_
                          exact g_sub (lv' := [(0, .ref (r 304)), (2, .ref (r (305 + o2))), (3, .long y1), (5, iv x2), (6, iv x3)]) [3, 4, 5, 6, 7] rfl (hJ15 x2 t57 h)
                        · rw [if_neg e9_16] at h
                          refine g_tableOut X (tgt := 397) dX1_evaluate_64 hr9 (by omega) (by decide) ?_
                          refine g_iload X dX1_evaluate_397 6 rfl ?_
                          refine g_iconst X dX1_evaluate_399 ?_
                          refine g_iadd X dX1_evaluate_400 ?_
                          refine g_bipush X dX1_evaluate_401 (by decide) ?_
                          refine g_mmin X wdM_RX1_88 (by decide) (Nat.le_of_ble_eq_true rfl) dX1_evaluate_403 h (fun h => ?_)
                          refine g_istore (lv' := [(5, iv (min (x2 + 1) 95)), (9, iv (max x2 0)), (8, iv v12), (7, iv v10), (0, .ref (r 304)), (2, .ref (r (305 + o2))), (3, .long y1), (6, iv x3)]) X dX1_evaluate_406 (by decide) rfl ?_
                          refine g_aload_n X dX1_evaluate_408 4 rfl ?_
                          refine g_getR X fH_X1_11_304 rfl dX1_evaluate_409 ?_
                          refine g_iload X dX1_evaluate_412 0 rfl ?_
                          refine g_lload_n X dX1_evaluate_414 6 rfl ?_
                          refine g_iload X dX1_evaluate_415 3 rfl ?_
                          refine g_iload X dX1_evaluate_417 2 rfl ?_
                          refine g_aload_n X dX1_evaluate_419 5 rfl ?_
                          refine g_callsL (rest := [.long y1, iv (min (x2 + 1) 95), .ref (r 370)]) X (fun u9 h9 => cp_X1_plainly l E r N o2 ho2 v10 v12 t11 u9 h9) yy_X1_plainly wdT_X1_plainly wdM_RX1_108 rfl rfl (Nat.le_of_ble_eq_true rfl) dX1_evaluate_420 ⟨by decide, by decide⟩ ⟨rfl, rfl⟩ h (fun v59 t58 h => ?_)
                          refine g_land X dX1_evaluate_423 ?_
                          refine g_last X aH_370 dX1_evaluate_424 h (fun t60 h => ?_)
                          exact g_sub (lv' := [(0, .ref (r 304)), (2, .ref (r (305 + o2))), (3, .long y1), (5, iv (min (x2 + 1) 95)), (6, iv x3)]) [4, 5, 6, 0, 7] rfl (hJ15 (min (x2 + 1) 95) t60 h)
set_option maxHeartbeats 4000000 in
set_option maxRecDepth 100000 in
theorem b_f_X1_evaluate {p : Program} {l : Launch} {e : Env} {s : State} {m : MethodId} {args : Array Value} {below : List Frame} {meth : Method} {c : Code} {E : cE} {A : Nat → Prop} {r : Nat → Nat} {mc ms : Nat} {z : Int × St} {N : Nat} {o2 : Nat} (ho2 : o2 < 2) {a0 : Int} {a2 : Int64} {t : St} (X : gX p s m meth c cX1_evaluate 10 (some .int) yX1_evaluate args E A) (h : f_X1_evaluate N o2 a0 a2 t = some z) : gP p l e rm_f_X1_evaluate s m args below meth c E A 10 (MQ below ((gqI E (gW E r shH) z) A) args s mc ms A) (gW E r shH) 0 [(0, .ref (r 304)), (1, iv a0), (2, .ref (r (305 + o2))), (3, .long a2)] [] t := by
  unfold f_X1_evaluate at h
  refine g_iconst X dX1_evaluate_0 ?_
  refine g_istore (lv' := [(5, iv (-1)), (0, .ref (r 304)), (1, iv a0), (2, .ref (r (305 + o2))), (3, .long a2)]) X dX1_evaluate_1 (by decide) rfl ?_
  refine g_iload_n X dX1_evaluate_3 2 rfl ?_
  refine g_istore (lv' := [(6, iv a0), (5, iv (-1)), (0, .ref (r 304)), (1, iv a0), (2, .ref (r (305 + o2))), (3, .long a2)]) X dX1_evaluate_4 (by decide) rfl ?_
  refine g_sub (lv' := [(0, .ref (r 304)), (2, .ref (r (305 + o2))), (3, .long a2), (5, iv (-1)), (6, iv a0)]) [2, 4, 5, 1, 0] rfl (t_f_X1_evaluate_L6 ho2 X (fun k61 t62 h => ?_) N (-1) a0 t h)
  · refine g_iload X dX1_evaluate_431 0 rfl ?_
    exact g_iret X h dX1_evaluate_433
set_option maxHeartbeats 4000000 in
set_option maxRecDepth 100000 in
theorem cp_X1_evaluate (l : Launch) (E : cE) (r : Nat → Nat) (N : Nat) (o2 : Nat) (ho2 : o2 < 2) (a0 : Int) (a2 : Int64) (t : St) (z : Int × St) (h : f_X1_evaluate N o2 a0 a2 t = some z) : cM l E yX1_evaluate cX1_evaluate 10 (some .int) rm_f_X1_evaluate [.ref (r 304), iv a0, .ref (r (305 + o2)), .long a2] (gW E r shH t) (gqI E (gW E r shH) z) := by
  refine g_of (w := gW E r shH) (by decide) (Nat.le_of_ble_eq_true rfl) ?_
  intro p e s m below meth c A X
  exact g_sub (lv' := [(0, .ref (r 304)), (1, iv a0), (2, .ref (r (305 + o2))), (3, .long a2)]) [0, 1, 2, 3] rfl (b_f_X1_evaluate ho2 X h)
theorem yy_X1_evaluate : cY yX1_evaluate cX1_evaluate 10 (some .int) 3 := ⟨wdK_X1_evaluate, wdZ_RX1, by decide +kernel⟩
theorem yi_X1_evaluate : cYi yX1_evaluate := ⟨wdN_X1_evaluate, wdS_X1_evaluate⟩
theorem dX1_stayAll_0 : decode cX1_stayAll 0 = .ok (.iconst 0, 1) := by decide +kernel
theorem dX1_stayAll_1 : decode cX1_stayAll 1 = .ok (.istore_n 2, 1) := by decide +kernel
theorem dX1_stayAll_2 : decode cX1_stayAll 2 = .ok (.iload_n 2, 1) := by decide +kernel
theorem dX1_stayAll_3 : decode cX1_stayAll 3 = .ok (.aload_n 1, 1) := by decide +kernel
theorem dX1_stayAll_4 : decode cX1_stayAll 4 = .ok (.getfield 149, 3) := by decide +kernel
theorem dX1_stayAll_7 : decode cX1_stayAll 7 = .ok (.if_icmp .ge 52, 3) := by decide +kernel
theorem dX1_stayAll_10 : decode cX1_stayAll 10 = .ok (.aload_n 0, 1) := by decide +kernel
theorem dX1_stayAll_11 : decode cX1_stayAll 11 = .ok (.getfield 22, 3) := by decide +kernel
theorem dX1_stayAll_14 : decode cX1_stayAll 14 = .ok (.iload_n 2, 1) := by decide +kernel
theorem dX1_stayAll_15 : decode cX1_stayAll 15 = .ok (.aload_n 1, 1) := by decide +kernel
theorem dX1_stayAll_16 : decode cX1_stayAll 16 = .ok (.getfield 162, 3) := by decide +kernel
theorem dX1_stayAll_19 : decode cX1_stayAll 19 = .ok (.iload_n 2, 1) := by decide +kernel
theorem dX1_stayAll_20 : decode cX1_stayAll 20 = .ok (.iaload, 1) := by decide +kernel
theorem dX1_stayAll_21 : decode cX1_stayAll 21 = .ok (.iastore, 1) := by decide +kernel
theorem dX1_stayAll_22 : decode cX1_stayAll 22 = .ok (.aload_n 0, 1) := by decide +kernel
theorem dX1_stayAll_23 : decode cX1_stayAll 23 = .ok (.getfield 25, 3) := by decide +kernel
theorem dX1_stayAll_26 : decode cX1_stayAll 26 = .ok (.iload_n 2, 1) := by decide +kernel
theorem dX1_stayAll_27 : decode cX1_stayAll 27 = .ok (.aload_n 1, 1) := by decide +kernel
theorem dX1_stayAll_28 : decode cX1_stayAll 28 = .ok (.getfield 163, 3) := by decide +kernel
theorem dX1_stayAll_31 : decode cX1_stayAll 31 = .ok (.iload_n 2, 1) := by decide +kernel
theorem dX1_stayAll_32 : decode cX1_stayAll 32 = .ok (.iaload, 1) := by decide +kernel
theorem dX1_stayAll_33 : decode cX1_stayAll 33 = .ok (.iastore, 1) := by decide +kernel
theorem dX1_stayAll_34 : decode cX1_stayAll 34 = .ok (.aload_n 0, 1) := by decide +kernel
theorem dX1_stayAll_35 : decode cX1_stayAll 35 = .ok (.getfield 31, 3) := by decide +kernel
theorem dX1_stayAll_38 : decode cX1_stayAll 38 = .ok (.iload_n 2, 1) := by decide +kernel
theorem dX1_stayAll_39 : decode cX1_stayAll 39 = .ok (.aload_n 1, 1) := by decide +kernel
theorem dX1_stayAll_40 : decode cX1_stayAll 40 = .ok (.getfield 164, 3) := by decide +kernel
theorem dX1_stayAll_43 : decode cX1_stayAll 43 = .ok (.iload_n 2, 1) := by decide +kernel
theorem dX1_stayAll_44 : decode cX1_stayAll 44 = .ok (.iaload, 1) := by decide +kernel
theorem dX1_stayAll_45 : decode cX1_stayAll 45 = .ok (.iastore, 1) := by decide +kernel
theorem dX1_stayAll_46 : decode cX1_stayAll 46 = .ok (.aload_n 0, 1) := by decide +kernel
theorem dX1_stayAll_47 : decode cX1_stayAll 47 = .ok (.getfield 28, 3) := by decide +kernel
theorem dX1_stayAll_50 : decode cX1_stayAll 50 = .ok (.iload_n 2, 1) := by decide +kernel
theorem dX1_stayAll_51 : decode cX1_stayAll 51 = .ok (.iconst 0, 1) := by decide +kernel
theorem dX1_stayAll_52 : decode cX1_stayAll 52 = .ok (.iastore, 1) := by decide +kernel
theorem dX1_stayAll_53 : decode cX1_stayAll 53 = .ok (.iinc 2 1, 3) := by decide +kernel
theorem dX1_stayAll_56 : decode cX1_stayAll 56 = .ok (.goto (-54), 3) := by decide +kernel
theorem dX1_stayAll_59 : decode cX1_stayAll 59 = .ok (.return_, 1) := by decide +kernel
abbrev rm_f_X1_stayAll : Room := { frames := 0, cells := 0, slots := 0, locals := 0 }
def f_X1_stayAll_L2 (o1 : Nat) (K3 : (St → Option (St))) : Nat → Int → St → Option (St)
  | 0, _, _ => none
  | n9 + 1, x1, t2 =>
    lt1 (t2.1 (305 + o1) 8) fun v4 =>
    cmpI x1 v4 (if x1 < v4 then (ixI x1 64 (lt1 (t2.1 (390 + 10 * o1) x1.toNat) fun v5 =>
    ixI x1 64 (lt1 (pI t2 373 x1.toNat v5) fun t6 =>
    ixI x1 64 (lt1 (t6.1 (391 + 10 * o1) x1.toNat) fun v7 =>
    ixI x1 64 (lt1 (pI t6 374 x1.toNat v7) fun t8 =>
    ixI x1 64 (lt1 (t8.1 (392 + 10 * o1) x1.toNat) fun v9 =>
    ixI x1 64 (lt1 (pI t8 376 x1.toNat v9) fun t10 =>
    ixI x1 64 (lt1 (pI t10 375 x1.toNat 0) fun t11 =>
    f_X1_stayAll_L2 o1 K3 n9 (x1 + 1) t11))))))))
    else (K3 t2))
def f_X1_stayAll (N : Nat) (o1 : Nat) (t : St) : Option (St) :=
    f_X1_stayAll_L2 o1 (fun (t12 : St) => some t12) N 0 t
set_option maxHeartbeats 4000000 in
set_option maxRecDepth 100000 in
theorem t_f_X1_stayAll_L2 {p : Program} {l : Launch} {e : Env} {s : State} {m : MethodId} {args : Array Value} {below : List Frame} {meth : Method} {c : Code} {E : cE} {A : Nat → Prop} {r : Nat → Nat} {mc ms : Nat} {z : St} {o1 : Nat} (ho1 : o1 < 2) {K3 : (St → Option (St))} (X : gX p s m meth c cX1_stayAll 3 none yX1_stayAll args E A) (hK3 : ∀ (t9 : St), K3 t9 = some z → gP p l e rm_f_X1_stayAll s m args below meth c E A 3 (MQ below ((gqV E (gW E r shH) z) A) args s mc ms A) (gW E r shH) 59 [] [] t9) : ∀ (n9 : Nat) (x1 : Int) (t2 : St), f_X1_stayAll_L2 o1 K3 n9 x1 t2 = some z → gP p l e rm_f_X1_stayAll s m args below meth c E A 3 (MQ below ((gqV E (gW E r shH) z) A) args s mc ms A) (gW E r shH) 2 [(0, .ref (r 304)), (1, .ref (r (305 + o1))), (2, iv x1)] [] t2 := by
  intro n9
  induction n9 with
  | zero => intro x1 t2 h; cases h
  | succ n9 ih =>
    intro x1 t2 h
    unfold f_X1_stayAll_L2 at h
    refine g_iload_n X dX1_stayAll_2 2 rfl ?_
    refine g_aload_n X dX1_stayAll_3 1 rfl ?_
    refine g_getI X (fH_X1_149_o (o := o1) ho1) rfl dX1_stayAll_4 h (fun v4 h => ?_)
    refine g_icmp_ge (tgt := 59) X dX1_stayAll_7 (by decide) h (fun h => ?_) (fun h => ?_)
    · exact g_sub (lv' := []) [] rfl (hK3 t2 h)
    · refine g_aload_n X dX1_stayAll_10 0 rfl ?_
      refine g_getR X fH_X1_22_304 rfl dX1_stayAll_11 ?_
      refine g_iload_n X dX1_stayAll_14 2 rfl ?_
      refine g_aload_n X dX1_stayAll_15 1 rfl ?_
      refine g_getR X (fH_X1_162_o (o := o1) ho1) rfl dX1_stayAll_16 ?_
      refine g_iload_n X dX1_stayAll_19 2 rfl ?_
      refine g_iald X (aF_0 (o := o1) ho1) dX1_stayAll_20 h (fun v5 h => ?_)
      refine g_iast X aH_373 dX1_stayAll_21 h (fun t6 h => ?_)
      refine g_aload_n X dX1_stayAll_22 0 rfl ?_
      refine g_getR X fH_X1_25_304 rfl dX1_stayAll_23 ?_
      refine g_iload_n X dX1_stayAll_26 2 rfl ?_
      refine g_aload_n X dX1_stayAll_27 1 rfl ?_
      refine g_getR X (fH_X1_163_o (o := o1) ho1) rfl dX1_stayAll_28 ?_
      refine g_iload_n X dX1_stayAll_31 2 rfl ?_
      refine g_iald X (aF_1 (o := o1) ho1) dX1_stayAll_32 h (fun v7 h => ?_)
      refine g_iast X aH_374 dX1_stayAll_33 h (fun t8 h => ?_)
      refine g_aload_n X dX1_stayAll_34 0 rfl ?_
      refine g_getR X fH_X1_31_304 rfl dX1_stayAll_35 ?_
      refine g_iload_n X dX1_stayAll_38 2 rfl ?_
      refine g_aload_n X dX1_stayAll_39 1 rfl ?_
      refine g_getR X (fH_X1_164_o (o := o1) ho1) rfl dX1_stayAll_40 ?_
      refine g_iload_n X dX1_stayAll_43 2 rfl ?_
      refine g_iald X (aF_2 (o := o1) ho1) dX1_stayAll_44 h (fun v9 h => ?_)
      refine g_iast X aH_376 dX1_stayAll_45 h (fun t10 h => ?_)
      refine g_aload_n X dX1_stayAll_46 0 rfl ?_
      refine g_getR X fH_X1_28_304 rfl dX1_stayAll_47 ?_
      refine g_iload_n X dX1_stayAll_50 2 rfl ?_
      refine g_iconst X dX1_stayAll_51 ?_
      refine g_iast X aH_375 dX1_stayAll_52 h (fun t11 h => ?_)
      refine g_iinc (lv' := [(2, iv (x1 + 1)), (0, .ref (r 304)), (1, .ref (r (305 + o1)))]) X dX1_stayAll_53 (k := 2) rfl (by decide) rfl ?_
      refine g_goto (tgt := 2) X dX1_stayAll_56 (by decide) ?_
      exact g_sub (lv' := [(0, .ref (r 304)), (1, .ref (r (305 + o1))), (2, iv (x1 + 1))]) [1, 2, 0] rfl (ih (x1 + 1) t11 h)
set_option maxHeartbeats 4000000 in
set_option maxRecDepth 100000 in
theorem b_f_X1_stayAll {p : Program} {l : Launch} {e : Env} {s : State} {m : MethodId} {args : Array Value} {below : List Frame} {meth : Method} {c : Code} {E : cE} {A : Nat → Prop} {r : Nat → Nat} {mc ms : Nat} {z : St} {N : Nat} {o1 : Nat} (ho1 : o1 < 2) {t : St} (X : gX p s m meth c cX1_stayAll 3 none yX1_stayAll args E A) (h : f_X1_stayAll N o1 t = some z) : gP p l e rm_f_X1_stayAll s m args below meth c E A 3 (MQ below ((gqV E (gW E r shH) z) A) args s mc ms A) (gW E r shH) 0 [(0, .ref (r 304)), (1, .ref (r (305 + o1)))] [] t := by
  unfold f_X1_stayAll at h
  refine g_iconst X dX1_stayAll_0 ?_
  refine g_istore_n (lv' := [(2, iv 0), (0, .ref (r 304)), (1, .ref (r (305 + o1)))]) X dX1_stayAll_1 rfl (by decide) rfl ?_
  refine g_sub (lv' := [(0, .ref (r 304)), (1, .ref (r (305 + o1))), (2, iv 0)]) [1, 2, 0] rfl (t_f_X1_stayAll_L2 ho1 X (fun t12 h => ?_) N 0 t h)
  · exact g_vret X h dX1_stayAll_59
set_option maxHeartbeats 4000000 in
set_option maxRecDepth 100000 in
theorem cp_X1_stayAll (l : Launch) (E : cE) (r : Nat → Nat) (N : Nat) (o1 : Nat) (ho1 : o1 < 2) (t : St) (z : St) (h : f_X1_stayAll N o1 t = some z) : cM l E yX1_stayAll cX1_stayAll 3 none rm_f_X1_stayAll [.ref (r 304), .ref (r (305 + o1))] (gW E r shH t) (gqV E (gW E r shH) z) := by
  refine g_of (w := gW E r shH) (by decide) (Nat.le_of_ble_eq_true rfl) ?_
  intro p e s m below meth c A X
  exact g_sub (lv' := [(0, .ref (r 304)), (1, .ref (r (305 + o1)))]) [0, 1] rfl (b_f_X1_stayAll ho1 X h)
theorem yy_X1_stayAll : cY yX1_stayAll cX1_stayAll 3 none 1 := ⟨wdK_X1_stayAll, wdZ_RX1, by decide +kernel⟩
theorem yi_X1_stayAll : cYi yX1_stayAll := ⟨wdN_X1_stayAll, wdS_X1_stayAll⟩
theorem dX1_blame_0 : decode cX1_blame 0 = .ok (.aload_n 0, 1) := by decide +kernel
theorem dX1_blame_1 : decode cX1_blame 1 = .ok (.iload_n 1, 1) := by decide +kernel
theorem dX1_blame_2 : decode cX1_blame 2 = .ok (.putfield 143, 3) := by decide +kernel
theorem dX1_blame_5 : decode cX1_blame 5 = .ok (.aload_n 0, 1) := by decide +kernel
theorem dX1_blame_6 : decode cX1_blame 6 = .ok (.iload_n 2, 1) := by decide +kernel
theorem dX1_blame_7 : decode cX1_blame 7 = .ok (.putfield 167, 3) := by decide +kernel
theorem dX1_blame_10 : decode cX1_blame 10 = .ok (.aload_n 0, 1) := by decide +kernel
theorem dX1_blame_11 : decode cX1_blame 11 = .ok (.iload_n 3, 1) := by decide +kernel
theorem dX1_blame_12 : decode cX1_blame 12 = .ok (.putfield 170, 3) := by decide +kernel
theorem dX1_blame_15 : decode cX1_blame 15 = .ok (.iload_n 1, 1) := by decide +kernel
theorem dX1_blame_16 : decode cX1_blame 16 = .ok (.ifCond .ne 7, 3) := by decide +kernel
theorem dX1_blame_19 : decode cX1_blame 19 = .ok (.iconst 1, 1) := by decide +kernel
theorem dX1_blame_20 : decode cX1_blame 20 = .ok (.goto 4, 3) := by decide +kernel
theorem dX1_blame_23 : decode cX1_blame 23 = .ok (.iconst 0, 1) := by decide +kernel
theorem dX1_blame_24 : decode cX1_blame 24 = .ok (.ireturn, 1) := by decide +kernel
abbrev rm_f_X1_blame : Room := { frames := 0, cells := 0, slots := 0, locals := 0 }
def f_X1_blame (N : Nat) (a0 : Int) (a1 : Int) (a2 : Int) (t : St) : Option (Int × St) :=
    lt1 (pI t 304 14 a0) fun t1 =>
    lt1 (pI t1 304 15 a1) fun t2 =>
    lt1 (pI t2 304 16 a2) fun t3 =>
    cmpI a0 0 (if a0 = 0 then (boI 1 (some (1, t3)))
    else (boI 0 (some (0, t3))))
set_option maxHeartbeats 4000000 in
set_option maxRecDepth 100000 in
theorem b_f_X1_blame {p : Program} {l : Launch} {e : Env} {s : State} {m : MethodId} {args : Array Value} {below : List Frame} {meth : Method} {c : Code} {E : cE} {A : Nat → Prop} {r : Nat → Nat} {mc ms : Nat} {z : Int × St} {N : Nat} {a0 : Int} {a1 : Int} {a2 : Int} {t : St} (X : gX p s m meth c cX1_blame 4 (some .boolean) yX1_blame args E A) (h : f_X1_blame N a0 a1 a2 t = some z) : gP p l e rm_f_X1_blame s m args below meth c E A 4 (MQ below ((gqI E (gW E r shH) z) A) args s mc ms A) (gW E r shH) 0 [(0, .ref (r 304)), (1, iv a0), (2, iv a1), (3, iv a2)] [] t := by
  unfold f_X1_blame at h
  refine g_aload_n X dX1_blame_0 0 rfl ?_
  refine g_iload_n X dX1_blame_1 1 rfl ?_
  refine g_putI X fH_X1_143_304w rfl dX1_blame_2 h (fun t1 h => ?_)
  refine g_aload_n X dX1_blame_5 0 rfl ?_
  refine g_iload_n X dX1_blame_6 2 rfl ?_
  refine g_putI X fH_X1_167_304w rfl dX1_blame_7 h (fun t2 h => ?_)
  refine g_aload_n X dX1_blame_10 0 rfl ?_
  refine g_iload_n X dX1_blame_11 3 rfl ?_
  refine g_putI X fH_X1_170_304w rfl dX1_blame_12 h (fun t3 h => ?_)
  refine g_iload_n X dX1_blame_15 1 rfl ?_
  refine g_if_ne (tgt := 23) X dX1_blame_16 (by decide) h (fun h => ?_) (fun h => ?_)
  · refine g_iconst X dX1_blame_23 ?_
    exact g_zret X h dX1_blame_24
  · refine g_iconst X dX1_blame_19 ?_
    refine g_goto (tgt := 24) X dX1_blame_20 (by decide) ?_
    exact g_zret X h dX1_blame_24
set_option maxHeartbeats 4000000 in
set_option maxRecDepth 100000 in
theorem cp_X1_blame (l : Launch) (E : cE) (r : Nat → Nat) (N : Nat) (a0 : Int) (a1 : Int) (a2 : Int) (t : St) (z : Int × St) (h : f_X1_blame N a0 a1 a2 t = some z) : cM l E yX1_blame cX1_blame 4 (some .boolean) rm_f_X1_blame [.ref (r 304), iv a0, iv a1, iv a2] (gW E r shH t) (gqI E (gW E r shH) z) := by
  refine g_of (w := gW E r shH) (by decide) (Nat.le_of_ble_eq_true rfl) ?_
  intro p e s m below meth c A X
  exact g_sub (lv' := [(0, .ref (r 304)), (1, iv a0), (2, iv a1), (3, iv a2)]) [0, 1, 2, 3] rfl (b_f_X1_blame X h)
theorem yy_X1_blame : cY yX1_blame cX1_blame 4 (some .boolean) 3 := ⟨wdK_X1_blame, wdZ_RX1, by decide +kernel⟩
theorem yi_X1_blame : cYi yX1_blame := ⟨wdN_X1_blame, wdS_X1_blame⟩
theorem dX1_leastOf_0 : decode cX1_leastOf 0 = .ok (.iconst 0, 1) := by decide +kernel
theorem dX1_leastOf_1 : decode cX1_leastOf 1 = .ok (.istore_n 3, 1) := by decide +kernel
theorem dX1_leastOf_2 : decode cX1_leastOf 2 = .ok (.iload_n 3, 1) := by decide +kernel
theorem dX1_leastOf_3 : decode cX1_leastOf 3 = .ok (.iload_n 2, 1) := by decide +kernel
theorem dX1_leastOf_4 : decode cX1_leastOf 4 = .ok (.if_icmp .ge 21, 3) := by decide +kernel
theorem dX1_leastOf_7 : decode cX1_leastOf 7 = .ok (.lload_n 0, 1) := by decide +kernel
theorem dX1_leastOf_8 : decode cX1_leastOf 8 = .ok (.iload_n 3, 1) := by decide +kernel
theorem dX1_leastOf_9 : decode cX1_leastOf 9 = .ok (.lushr, 1) := by decide +kernel
theorem dX1_leastOf_10 : decode cX1_leastOf 10 = .ok (.lconst 1, 1) := by decide +kernel
theorem dX1_leastOf_11 : decode cX1_leastOf 11 = .ok (.land, 1) := by decide +kernel
theorem dX1_leastOf_12 : decode cX1_leastOf 12 = .ok (.lconst 0, 1) := by decide +kernel
theorem dX1_leastOf_13 : decode cX1_leastOf 13 = .ok (.lcmp, 1) := by decide +kernel
theorem dX1_leastOf_14 : decode cX1_leastOf 14 = .ok (.ifCond .eq 5, 3) := by decide +kernel
theorem dX1_leastOf_17 : decode cX1_leastOf 17 = .ok (.iload_n 3, 1) := by decide +kernel
theorem dX1_leastOf_18 : decode cX1_leastOf 18 = .ok (.ireturn, 1) := by decide +kernel
theorem dX1_leastOf_19 : decode cX1_leastOf 19 = .ok (.iinc 3 1, 3) := by decide +kernel
theorem dX1_leastOf_22 : decode cX1_leastOf 22 = .ok (.goto (-20), 3) := by decide +kernel
theorem dX1_leastOf_25 : decode cX1_leastOf 25 = .ok (.iconst (-1), 1) := by decide +kernel
theorem dX1_leastOf_26 : decode cX1_leastOf 26 = .ok (.ireturn, 1) := by decide +kernel
abbrev rm_f_X1_leastOf : Room := { frames := 0, cells := 0, slots := 0, locals := 0 }
def f_X1_leastOf_L2 (K5 : (St → Option (Int × St))) (y1 : Int64) (y2 : Int) : Nat → Int → St → Option (Int × St)
  | 0, _, _ => none
  | n9 + 1, x3, t4 =>
    cmpI x3 y2 (if x3 < y2 then ((if ((ushrL y1 x3) &&& (1 : Int64)) = (0 : Int64) then (f_X1_leastOf_L2 K5 y1 y2 n9 (x3 + 1) t4)
    else (some (x3, t4))))
    else (K5 t4))
def f_X1_leastOf (N : Nat) (a0 : Int64) (a1 : Int) (t : St) : Option (Int × St) :=
    f_X1_leastOf_L2 (fun (t6 : St) => some ((-1), t6)) a0 a1 N 0 t
set_option maxHeartbeats 4000000 in
set_option maxRecDepth 100000 in
theorem t_f_X1_leastOf_L2 {p : Program} {l : Launch} {e : Env} {s : State} {m : MethodId} {args : Array Value} {below : List Frame} {meth : Method} {c : Code} {E : cE} {A : Nat → Prop} {r : Nat → Nat} {mc ms : Nat} {z : Int × St} {K5 : (St → Option (Int × St))} {y1 : Int64} {y2 : Int} (X : gX p s m meth c cX1_leastOf 4 (some .int) yX1_leastOf args E A) (hK5 : ∀ (t9 : St), K5 t9 = some z → gP p l e rm_f_X1_leastOf s m args below meth c E A 4 (MQ below ((gqI E (gW E r shH) z) A) args s mc ms A) (gW E r shH) 25 [] [] t9) : ∀ (n9 : Nat) (x3 : Int) (t4 : St), f_X1_leastOf_L2 K5 y1 y2 n9 x3 t4 = some z → gP p l e rm_f_X1_leastOf s m args below meth c E A 4 (MQ below ((gqI E (gW E r shH) z) A) args s mc ms A) (gW E r shH) 2 [(0, .long y1), (2, iv y2), (3, iv x3)] [] t4 := by
  intro n9
  induction n9 with
  | zero => intro x3 t4 h; cases h
  | succ n9 ih =>
    intro x3 t4 h
    unfold f_X1_leastOf_L2 at h
    refine g_iload_n X dX1_leastOf_2 2 rfl ?_
    refine g_iload_n X dX1_leastOf_3 1 rfl ?_
    refine g_icmp_ge (tgt := 25) X dX1_leastOf_4 (by decide) h (fun h => ?_) (fun h => ?_)
    · exact g_sub (lv' := []) [] rfl (hK5 t4 h)
    · refine g_lload_n X dX1_leastOf_7 0 rfl ?_
      refine g_iload_n X dX1_leastOf_8 2 rfl ?_
      refine g_lushr X dX1_leastOf_9 ?_
      refine g_lconst (v := 1) X dX1_leastOf_10 (by decide) ?_
      refine g_land X dX1_leastOf_11 ?_
      refine g_lconst (v := 0) X dX1_leastOf_12 (by decide) ?_
      refine g_lcmp_eq (tgt := 19) X dX1_leastOf_13 dX1_leastOf_14 (by decide) h (fun h => ?_) (fun h => ?_)
      · refine g_iinc (lv' := [(3, iv (x3 + 1)), (0, .long y1), (2, iv y2)]) X dX1_leastOf_19 (k := 2) rfl (by decide) rfl ?_
        refine g_goto (tgt := 2) X dX1_leastOf_22 (by decide) ?_
        exact g_sub (lv' := [(0, .long y1), (2, iv y2), (3, iv (x3 + 1))]) [1, 2, 0] rfl (ih (x3 + 1) t4 h)
      · refine g_iload_n X dX1_leastOf_17 2 rfl ?_
        exact g_iret X h dX1_leastOf_18
set_option maxHeartbeats 4000000 in
set_option maxRecDepth 100000 in
theorem b_f_X1_leastOf {p : Program} {l : Launch} {e : Env} {s : State} {m : MethodId} {args : Array Value} {below : List Frame} {meth : Method} {c : Code} {E : cE} {A : Nat → Prop} {r : Nat → Nat} {mc ms : Nat} {z : Int × St} {N : Nat} {a0 : Int64} {a1 : Int} {t : St} (X : gX p s m meth c cX1_leastOf 4 (some .int) yX1_leastOf args E A) (h : f_X1_leastOf N a0 a1 t = some z) : gP p l e rm_f_X1_leastOf s m args below meth c E A 4 (MQ below ((gqI E (gW E r shH) z) A) args s mc ms A) (gW E r shH) 0 [(0, .long a0), (2, iv a1)] [] t := by
  unfold f_X1_leastOf at h
  refine g_iconst X dX1_leastOf_0 ?_
  refine g_istore_n (lv' := [(3, iv 0), (0, .long a0), (2, iv a1)]) X dX1_leastOf_1 rfl (by decide) rfl ?_
  refine g_sub (lv' := [(0, .long a0), (2, iv a1), (3, iv 0)]) [1, 2, 0] rfl (t_f_X1_leastOf_L2 X (fun t6 h => ?_) N 0 t h)
  · refine g_iconst X dX1_leastOf_25 ?_
    exact g_iret X h dX1_leastOf_26
set_option maxHeartbeats 4000000 in
set_option maxRecDepth 100000 in
theorem cp_X1_leastOf (l : Launch) (E : cE) (r : Nat → Nat) (N : Nat) (a0 : Int64) (a1 : Int) (t : St) (z : Int × St) (h : f_X1_leastOf N a0 a1 t = some z) : cM l E yX1_leastOf cX1_leastOf 4 (some .int) rm_f_X1_leastOf [.long a0, iv a1] (gW E r shH t) (gqI E (gW E r shH) z) := by
  refine g_of (w := gW E r shH) (by decide) (Nat.le_of_ble_eq_true rfl) ?_
  intro p e s m below meth c A X
  exact g_sub (lv' := [(0, .long a0), (2, iv a1)]) [0, 1] rfl (b_f_X1_leastOf X h)
theorem yy_X1_leastOf : cY yX1_leastOf cX1_leastOf 4 (some .int) 2 := ⟨wdK_X1_leastOf, wdZ_RX1, by decide +kernel⟩
theorem dX3_firstDancerOf_0 : decode cX3_firstDancerOf 0 = .ok (.aload_n 0, 1) := by decide +kernel
theorem dX3_firstDancerOf_1 : decode cX3_firstDancerOf 1 = .ok (.lload_n 1, 1) := by decide +kernel
theorem dX3_firstDancerOf_2 : decode cX3_firstDancerOf 2 = .ok (.iconst 0, 1) := by decide +kernel
theorem dX3_firstDancerOf_3 : decode cX3_firstDancerOf 3 = .ok (.invokevirtual 83, 3) := by decide +kernel
theorem dX3_firstDancerOf_6 : decode cX3_firstDancerOf 6 = .ok (.istore_n 3, 1) := by decide +kernel
theorem dX3_firstDancerOf_7 : decode cX3_firstDancerOf 7 = .ok (.iload_n 3, 1) := by decide +kernel
theorem dX3_firstDancerOf_8 : decode cX3_firstDancerOf 8 = .ok (.aload_n 0, 1) := by decide +kernel
theorem dX3_firstDancerOf_9 : decode cX3_firstDancerOf 9 = .ok (.getfield 61, 3) := by decide +kernel
theorem dX3_firstDancerOf_12 : decode cX3_firstDancerOf 12 = .ok (.if_icmp .ge 12, 3) := by decide +kernel
theorem dX3_firstDancerOf_15 : decode cX3_firstDancerOf 15 = .ok (.aload_n 0, 1) := by decide +kernel
theorem dX3_firstDancerOf_16 : decode cX3_firstDancerOf 16 = .ok (.getfield 27, 3) := by decide +kernel
theorem dX3_firstDancerOf_19 : decode cX3_firstDancerOf 19 = .ok (.iload_n 3, 1) := by decide +kernel
theorem dX3_firstDancerOf_20 : decode cX3_firstDancerOf 20 = .ok (.iaload, 1) := by decide +kernel
theorem dX3_firstDancerOf_21 : decode cX3_firstDancerOf 21 = .ok (.goto 4, 3) := by decide +kernel
theorem dX3_firstDancerOf_24 : decode cX3_firstDancerOf 24 = .ok (.iconst (-1), 1) := by decide +kernel
theorem dX3_firstDancerOf_25 : decode cX3_firstDancerOf 25 = .ok (.ireturn, 1) := by decide +kernel
abbrev rm_f_X3_firstDancerOf : Room := { frames := 1, cells := 0, slots := 0, locals := 24 }
def f_X3_firstDancerOf (N : Nat) (o0 : Nat) (a0 : Int64) (t : St) : Option (Int × St) :=
    bdI (f_X3_firstOf N o0 a0 0 t) fun v2 t1 =>
    lt1 (t1.1 (305 + o0) 8) fun v3 =>
    cmpI v2 v3 (if v2 < v3 then (ixI v2 64 (lt1 (t1.1 (395 + 10 * o0) v2.toNat) fun v4 =>
    some (v4, t1)))
    else (some ((-1), t1)))
set_option maxHeartbeats 4000000 in
set_option maxRecDepth 100000 in
theorem b_f_X3_firstDancerOf {p : Program} {l : Launch} {e : Env} {s : State} {m : MethodId} {args : Array Value} {below : List Frame} {meth : Method} {c : Code} {E : cE} {A : Nat → Prop} {r : Nat → Nat} {mc ms : Nat} {z : Int × St} {N : Nat} {o0 : Nat} (ho0 : o0 < 2) {a0 : Int64} {t : St} (X : gX p s m meth c cX3_firstDancerOf 4 (some .int) yX3_firstDancerOf args E A) (h : f_X3_firstDancerOf N o0 a0 t = some z) : gP p l e rm_f_X3_firstDancerOf s m args below meth c E A 4 (MQ below ((gqI E (gW E r shH) z) A) args s mc ms A) (gW E r shH) 0 [(0, .ref (r (305 + o0))), (1, .long a0)] [] t := by
  unfold f_X3_firstDancerOf at h
  refine g_aload_n X dX3_firstDancerOf_0 0 rfl ?_
  refine g_lload_n X dX3_firstDancerOf_1 1 rfl ?_
  refine g_iconst X dX3_firstDancerOf_2 ?_
  refine g_callOI (rest := []) X (fun u9 h9 => cp_X3_firstOf l E r N o0 ho0 a0 0 t u9 h9) yy_X3_firstOf yi_X3_firstOf wdM_RX3_83 (oX3 (o := o0) ho0) rfl rfl rfl (Nat.le_of_ble_eq_true rfl) dX3_firstDancerOf_3 ⟨by decide, by decide⟩ ⟨rfl, rfl⟩ h (fun v2 t1 h => ?_)
  refine g_istore_n (lv' := [(3, iv v2), (0, .ref (r (305 + o0))), (1, .long a0)]) X dX3_firstDancerOf_6 rfl (by decide) rfl ?_
  refine g_iload_n X dX3_firstDancerOf_7 0 rfl ?_
  refine g_aload_n X dX3_firstDancerOf_8 1 rfl ?_
  refine g_getI X (fH_X3_61_o (o := o0) ho0) rfl dX3_firstDancerOf_9 h (fun v3 h => ?_)
  refine g_icmp_ge (tgt := 24) X dX3_firstDancerOf_12 (by decide) h (fun h => ?_) (fun h => ?_)
  · refine g_iconst X dX3_firstDancerOf_24 ?_
    exact g_iret X h dX3_firstDancerOf_25
  · refine g_aload_n X dX3_firstDancerOf_15 1 rfl ?_
    refine g_getR X (fH_X3_27_o (o := o0) ho0) rfl dX3_firstDancerOf_16 ?_
    refine g_iload_n X dX3_firstDancerOf_19 0 rfl ?_
    refine g_iald X (aF_5 (o := o0) ho0) dX3_firstDancerOf_20 h (fun v4 h => ?_)
    refine g_goto (tgt := 25) X dX3_firstDancerOf_21 (by decide) ?_
    exact g_iret X h dX3_firstDancerOf_25
set_option maxHeartbeats 4000000 in
set_option maxRecDepth 100000 in
theorem cp_X3_firstDancerOf (l : Launch) (E : cE) (r : Nat → Nat) (N : Nat) (o0 : Nat) (ho0 : o0 < 2) (a0 : Int64) (t : St) (z : Int × St) (h : f_X3_firstDancerOf N o0 a0 t = some z) : cM l E yX3_firstDancerOf cX3_firstDancerOf 4 (some .int) rm_f_X3_firstDancerOf [.ref (r (305 + o0)), .long a0] (gW E r shH t) (gqI E (gW E r shH) z) := by
  refine g_of (w := gW E r shH) (by decide) (Nat.le_of_ble_eq_true rfl) ?_
  intro p e s m below meth c A X
  exact g_sub (lv' := [(0, .ref (r (305 + o0))), (1, .long a0)]) [0, 1] rfl (b_f_X3_firstDancerOf ho0 X h)
theorem yy_X3_firstDancerOf : cY yX3_firstDancerOf cX3_firstDancerOf 4 (some .int) 1 := ⟨wdK_X3_firstDancerOf, wdZ_RX3, by decide +kernel⟩
theorem yi_X3_firstDancerOf : cYi yX3_firstDancerOf := ⟨wdN_X3_firstDancerOf, wdS_X3_firstDancerOf⟩
theorem dX2_copyAt_0 : decode cX2_copyAt 0 = .ok (.aload_n 0, 1) := by decide +kernel
theorem dX2_copyAt_1 : decode cX2_copyAt 1 = .ok (.getfield 22, 3) := by decide +kernel
theorem dX2_copyAt_4 : decode cX2_copyAt 4 = .ok (.iload_n 1, 1) := by decide +kernel
theorem dX2_copyAt_5 : decode cX2_copyAt 5 = .ok (.iaload, 1) := by decide +kernel
theorem dX2_copyAt_6 : decode cX2_copyAt 6 = .ok (.ireturn, 1) := by decide +kernel
abbrev rm_f_X2_copyAt : Room := { frames := 0, cells := 0, slots := 0, locals := 0 }
def f_X2_copyAt (N : Nat) (a0 : Int) (t : St) : Option (Int × St) :=
    ixI a0 65 (lt1 (t.1 383 a0.toNat) fun v1 =>
    some (v1, t))
set_option maxHeartbeats 4000000 in
set_option maxRecDepth 100000 in
theorem b_f_X2_copyAt {p : Program} {l : Launch} {e : Env} {s : State} {m : MethodId} {args : Array Value} {below : List Frame} {meth : Method} {c : Code} {E : cE} {A : Nat → Prop} {r : Nat → Nat} {mc ms : Nat} {z : Int × St} {N : Nat} {a0 : Int} {t : St} (X : gX p s m meth c cX2_copyAt 2 (some .int) yX2_copyAt args E A) (h : f_X2_copyAt N a0 t = some z) : gP p l e rm_f_X2_copyAt s m args below meth c E A 2 (MQ below ((gqI E (gW E r shH) z) A) args s mc ms A) (gW E r shH) 0 [(0, .ref (r 311)), (1, iv a0)] [] t := by
  unfold f_X2_copyAt at h
  refine g_aload_n X dX2_copyAt_0 0 rfl ?_
  refine g_getR X fH_X2_22_311 rfl dX2_copyAt_1 ?_
  refine g_iload_n X dX2_copyAt_4 1 rfl ?_
  refine g_iald X aH_383 dX2_copyAt_5 h (fun v1 h => ?_)
  exact g_iret X h dX2_copyAt_6
set_option maxHeartbeats 4000000 in
set_option maxRecDepth 100000 in
theorem cp_X2_copyAt (l : Launch) (E : cE) (r : Nat → Nat) (N : Nat) (a0 : Int) (t : St) (z : Int × St) (h : f_X2_copyAt N a0 t = some z) : cM l E yX2_copyAt cX2_copyAt 2 (some .int) rm_f_X2_copyAt [.ref (r 311), iv a0] (gW E r shH t) (gqI E (gW E r shH) z) := by
  refine g_of (w := gW E r shH) (by decide) (Nat.le_of_ble_eq_true rfl) ?_
  intro p e s m below meth c A X
  exact g_sub (lv' := [(0, .ref (r 311)), (1, iv a0)]) [0, 1] rfl (b_f_X2_copyAt X h)
theorem yy_X2_copyAt : cY yX2_copyAt cX2_copyAt 2 (some .int) 1 := ⟨wdK_X2_copyAt, wdZ_RX2, by decide +kernel⟩
theorem yi_X2_copyAt : cYi yX2_copyAt := ⟨wdN_X2_copyAt, wdS_X2_copyAt⟩
theorem dX2_firstAt_0 : decode cX2_firstAt 0 = .ok (.aload_n 0, 1) := by decide +kernel
theorem dX2_firstAt_1 : decode cX2_firstAt 1 = .ok (.getfield 18, 3) := by decide +kernel
theorem dX2_firstAt_4 : decode cX2_firstAt 4 = .ok (.iload_n 1, 1) := by decide +kernel
theorem dX2_firstAt_5 : decode cX2_firstAt 5 = .ok (.iaload, 1) := by decide +kernel
theorem dX2_firstAt_6 : decode cX2_firstAt 6 = .ok (.ireturn, 1) := by decide +kernel
abbrev rm_f_X2_firstAt : Room := { frames := 0, cells := 0, slots := 0, locals := 0 }
def f_X2_firstAt (N : Nat) (a0 : Int) (t : St) : Option (Int × St) :=
    ixI a0 65 (lt1 (t.1 382 a0.toNat) fun v1 =>
    some (v1, t))
set_option maxHeartbeats 4000000 in
set_option maxRecDepth 100000 in
theorem b_f_X2_firstAt {p : Program} {l : Launch} {e : Env} {s : State} {m : MethodId} {args : Array Value} {below : List Frame} {meth : Method} {c : Code} {E : cE} {A : Nat → Prop} {r : Nat → Nat} {mc ms : Nat} {z : Int × St} {N : Nat} {a0 : Int} {t : St} (X : gX p s m meth c cX2_firstAt 2 (some .int) yX2_firstAt args E A) (h : f_X2_firstAt N a0 t = some z) : gP p l e rm_f_X2_firstAt s m args below meth c E A 2 (MQ below ((gqI E (gW E r shH) z) A) args s mc ms A) (gW E r shH) 0 [(0, .ref (r 311)), (1, iv a0)] [] t := by
  unfold f_X2_firstAt at h
  refine g_aload_n X dX2_firstAt_0 0 rfl ?_
  refine g_getR X fH_X2_18_311 rfl dX2_firstAt_1 ?_
  refine g_iload_n X dX2_firstAt_4 1 rfl ?_
  refine g_iald X aH_382 dX2_firstAt_5 h (fun v1 h => ?_)
  exact g_iret X h dX2_firstAt_6
set_option maxHeartbeats 4000000 in
set_option maxRecDepth 100000 in
theorem cp_X2_firstAt (l : Launch) (E : cE) (r : Nat → Nat) (N : Nat) (a0 : Int) (t : St) (z : Int × St) (h : f_X2_firstAt N a0 t = some z) : cM l E yX2_firstAt cX2_firstAt 2 (some .int) rm_f_X2_firstAt [.ref (r 311), iv a0] (gW E r shH t) (gqI E (gW E r shH) z) := by
  refine g_of (w := gW E r shH) (by decide) (Nat.le_of_ble_eq_true rfl) ?_
  intro p e s m below meth c A X
  exact g_sub (lv' := [(0, .ref (r 311)), (1, iv a0)]) [0, 1] rfl (b_f_X2_firstAt X h)
theorem yy_X2_firstAt : cY yX2_firstAt cX2_firstAt 2 (some .int) 1 := ⟨wdK_X2_firstAt, wdZ_RX2, by decide +kernel⟩
theorem yi_X2_firstAt : cYi yX2_firstAt := ⟨wdN_X2_firstAt, wdS_X2_firstAt⟩
theorem dX1_moveCopy_0 : decode cX1_moveCopy 0 = .ok (.aload_n 0, 1) := by decide +kernel
theorem dX1_moveCopy_1 : decode cX1_moveCopy 1 = .ok (.getfield 40, 3) := by decide +kernel
theorem dX1_moveCopy_4 : decode cX1_moveCopy 4 = .ok (.getfield 181, 3) := by decide +kernel
theorem dX1_moveCopy_7 : decode cX1_moveCopy 7 = .ok (.iload_n 2, 1) := by decide +kernel
theorem dX1_moveCopy_8 : decode cX1_moveCopy 8 = .ok (.iaload, 1) := by decide +kernel
theorem dX1_moveCopy_9 : decode cX1_moveCopy 9 = .ok (.istore 5, 2) := by decide +kernel
theorem dX1_moveCopy_11 : decode cX1_moveCopy 11 = .ok (.iload_n 3, 1) := by decide +kernel
theorem dX1_moveCopy_12 : decode cX1_moveCopy 12 = .ok (.iconst 3, 1) := by decide +kernel
theorem dX1_moveCopy_13 : decode cX1_moveCopy 13 = .ok (.iand, 1) := by decide +kernel
theorem dX1_moveCopy_14 : decode cX1_moveCopy 14 = .ok (.istore 6, 2) := by decide +kernel
theorem dX1_moveCopy_16 : decode cX1_moveCopy 16 = .ok (.iload 5, 2) := by decide +kernel
theorem dX1_moveCopy_18 : decode cX1_moveCopy 18 = .ok (.bipush 8, 2) := by decide +kernel
theorem dX1_moveCopy_20 : decode cX1_moveCopy 20 = .ok (.imul, 1) := by decide +kernel
theorem dX1_moveCopy_21 : decode cX1_moveCopy 21 = .ok (.iconst 4, 1) := by decide +kernel
theorem dX1_moveCopy_22 : decode cX1_moveCopy 22 = .ok (.imul, 1) := by decide +kernel
theorem dX1_moveCopy_23 : decode cX1_moveCopy 23 = .ok (.iload_n 3, 1) := by decide +kernel
theorem dX1_moveCopy_24 : decode cX1_moveCopy 24 = .ok (.iadd, 1) := by decide +kernel
theorem dX1_moveCopy_25 : decode cX1_moveCopy 25 = .ok (.istore 7, 2) := by decide +kernel
theorem dX1_moveCopy_27 : decode cX1_moveCopy 27 = .ok (.aload_n 1, 1) := by decide +kernel
theorem dX1_moveCopy_28 : decode cX1_moveCopy 28 = .ok (.getfield 162, 3) := by decide +kernel
theorem dX1_moveCopy_31 : decode cX1_moveCopy 31 = .ok (.iload 4, 2) := by decide +kernel
theorem dX1_moveCopy_33 : decode cX1_moveCopy 33 = .ok (.iaload, 1) := by decide +kernel
theorem dX1_moveCopy_34 : decode cX1_moveCopy 34 = .ok (.aload_n 0, 1) := by decide +kernel
theorem dX1_moveCopy_35 : decode cX1_moveCopy 35 = .ok (.getfield 40, 3) := by decide +kernel
theorem dX1_moveCopy_38 : decode cX1_moveCopy 38 = .ok (.getfield 203, 3) := by decide +kernel
theorem dX1_moveCopy_41 : decode cX1_moveCopy 41 = .ok (.iload 7, 2) := by decide +kernel
theorem dX1_moveCopy_43 : decode cX1_moveCopy 43 = .ok (.iaload, 1) := by decide +kernel
theorem dX1_moveCopy_44 : decode cX1_moveCopy 44 = .ok (.isub, 1) := by decide +kernel
theorem dX1_moveCopy_45 : decode cX1_moveCopy 45 = .ok (.istore 8, 2) := by decide +kernel
theorem dX1_moveCopy_47 : decode cX1_moveCopy 47 = .ok (.aload_n 1, 1) := by decide +kernel
theorem dX1_moveCopy_48 : decode cX1_moveCopy 48 = .ok (.getfield 163, 3) := by decide +kernel
theorem dX1_moveCopy_51 : decode cX1_moveCopy 51 = .ok (.iload 4, 2) := by decide +kernel
theorem dX1_moveCopy_53 : decode cX1_moveCopy 53 = .ok (.iaload, 1) := by decide +kernel
theorem dX1_moveCopy_54 : decode cX1_moveCopy 54 = .ok (.aload_n 0, 1) := by decide +kernel
theorem dX1_moveCopy_55 : decode cX1_moveCopy 55 = .ok (.getfield 40, 3) := by decide +kernel
theorem dX1_moveCopy_58 : decode cX1_moveCopy 58 = .ok (.getfield 206, 3) := by decide +kernel
theorem dX1_moveCopy_61 : decode cX1_moveCopy 61 = .ok (.iload 7, 2) := by decide +kernel
theorem dX1_moveCopy_63 : decode cX1_moveCopy 63 = .ok (.iaload, 1) := by decide +kernel
theorem dX1_moveCopy_64 : decode cX1_moveCopy 64 = .ok (.isub, 1) := by decide +kernel
theorem dX1_moveCopy_65 : decode cX1_moveCopy 65 = .ok (.istore 9, 2) := by decide +kernel
theorem dX1_moveCopy_67 : decode cX1_moveCopy 67 = .ok (.iconst 0, 1) := by decide +kernel
theorem dX1_moveCopy_68 : decode cX1_moveCopy 68 = .ok (.istore 10, 2) := by decide +kernel
theorem dX1_moveCopy_70 : decode cX1_moveCopy 70 = .ok (.iload 10, 2) := by decide +kernel
theorem dX1_moveCopy_72 : decode cX1_moveCopy 72 = .ok (.aload_n 0, 1) := by decide +kernel
theorem dX1_moveCopy_73 : decode cX1_moveCopy 73 = .ok (.getfield 40, 3) := by decide +kernel
theorem dX1_moveCopy_76 : decode cX1_moveCopy 76 = .ok (.getfield 209, 3) := by decide +kernel
theorem dX1_moveCopy_79 : decode cX1_moveCopy 79 = .ok (.iload 5, 2) := by decide +kernel
theorem dX1_moveCopy_81 : decode cX1_moveCopy 81 = .ok (.iaload, 1) := by decide +kernel
theorem dX1_moveCopy_82 : decode cX1_moveCopy 82 = .ok (.if_icmp .ge 127, 3) := by decide +kernel
theorem dX1_moveCopy_85 : decode cX1_moveCopy 85 = .ok (.aload_n 0, 1) := by decide +kernel
theorem dX1_moveCopy_86 : decode cX1_moveCopy 86 = .ok (.getfield 49, 3) := by decide +kernel
theorem dX1_moveCopy_89 : decode cX1_moveCopy 89 = .ok (.aload_n 1, 1) := by decide +kernel
theorem dX1_moveCopy_90 : decode cX1_moveCopy 90 = .ok (.iload 5, 2) := by decide +kernel
theorem dX1_moveCopy_92 : decode cX1_moveCopy 92 = .ok (.iload_n 3, 1) := by decide +kernel
theorem dX1_moveCopy_93 : decode cX1_moveCopy 93 = .ok (.iload 4, 2) := by decide +kernel
theorem dX1_moveCopy_95 : decode cX1_moveCopy 95 = .ok (.iload 10, 2) := by decide +kernel
theorem dX1_moveCopy_97 : decode cX1_moveCopy 97 = .ok (.invokevirtual 212, 3) := by decide +kernel
theorem dX1_moveCopy_100 : decode cX1_moveCopy 100 = .ok (.istore 11, 2) := by decide +kernel
theorem dX1_moveCopy_102 : decode cX1_moveCopy 102 = .ok (.iload_n 2, 1) := by decide +kernel
theorem dX1_moveCopy_103 : decode cX1_moveCopy 103 = .ok (.bipush 8, 2) := by decide +kernel
theorem dX1_moveCopy_105 : decode cX1_moveCopy 105 = .ok (.imul, 1) := by decide +kernel
theorem dX1_moveCopy_106 : decode cX1_moveCopy 106 = .ok (.iload 10, 2) := by decide +kernel
theorem dX1_moveCopy_108 : decode cX1_moveCopy 108 = .ok (.iadd, 1) := by decide +kernel
theorem dX1_moveCopy_109 : decode cX1_moveCopy 109 = .ok (.istore 12, 2) := by decide +kernel
theorem dX1_moveCopy_111 : decode cX1_moveCopy 111 = .ok (.iload 11, 2) := by decide +kernel
theorem dX1_moveCopy_113 : decode cX1_moveCopy 113 = .ok (.ifCond .lt 90, 3) := by decide +kernel
theorem dX1_moveCopy_116 : decode cX1_moveCopy 116 = .ok (.aload_n 0, 1) := by decide +kernel
theorem dX1_moveCopy_117 : decode cX1_moveCopy 117 = .ok (.getfield 22, 3) := by decide +kernel
theorem dX1_moveCopy_120 : decode cX1_moveCopy 120 = .ok (.iload 11, 2) := by decide +kernel
theorem dX1_moveCopy_122 : decode cX1_moveCopy 122 = .ok (.iload 8, 2) := by decide +kernel
theorem dX1_moveCopy_124 : decode cX1_moveCopy 124 = .ok (.aload_n 0, 1) := by decide +kernel
theorem dX1_moveCopy_125 : decode cX1_moveCopy 125 = .ok (.getfield 40, 3) := by decide +kernel
theorem dX1_moveCopy_128 : decode cX1_moveCopy 128 = .ok (.getfield 216, 3) := by decide +kernel
theorem dX1_moveCopy_131 : decode cX1_moveCopy 131 = .ok (.iload 12, 2) := by decide +kernel
theorem dX1_moveCopy_133 : decode cX1_moveCopy 133 = .ok (.iaload, 1) := by decide +kernel
theorem dX1_moveCopy_134 : decode cX1_moveCopy 134 = .ok (.aload_n 0, 1) := by decide +kernel
theorem dX1_moveCopy_135 : decode cX1_moveCopy 135 = .ok (.getfield 40, 3) := by decide +kernel
theorem dX1_moveCopy_138 : decode cX1_moveCopy 138 = .ok (.getfield 219, 3) := by decide +kernel
theorem dX1_moveCopy_141 : decode cX1_moveCopy 141 = .ok (.iload 12, 2) := by decide +kernel
theorem dX1_moveCopy_143 : decode cX1_moveCopy 143 = .ok (.iaload, 1) := by decide +kernel
theorem dX1_moveCopy_144 : decode cX1_moveCopy 144 = .ok (.iload 6, 2) := by decide +kernel
theorem dX1_moveCopy_146 : decode cX1_moveCopy 146 = .ok (.invokestatic 222, 3) := by decide +kernel
theorem dX1_moveCopy_149 : decode cX1_moveCopy 149 = .ok (.iadd, 1) := by decide +kernel
theorem dX1_moveCopy_150 : decode cX1_moveCopy 150 = .ok (.iastore, 1) := by decide +kernel
theorem dX1_moveCopy_151 : decode cX1_moveCopy 151 = .ok (.aload_n 0, 1) := by decide +kernel
theorem dX1_moveCopy_152 : decode cX1_moveCopy 152 = .ok (.getfield 25, 3) := by decide +kernel
theorem dX1_moveCopy_155 : decode cX1_moveCopy 155 = .ok (.iload 11, 2) := by decide +kernel
theorem dX1_moveCopy_157 : decode cX1_moveCopy 157 = .ok (.iload 9, 2) := by decide +kernel
theorem dX1_moveCopy_159 : decode cX1_moveCopy 159 = .ok (.aload_n 0, 1) := by decide +kernel
theorem dX1_moveCopy_160 : decode cX1_moveCopy 160 = .ok (.getfield 40, 3) := by decide +kernel
theorem dX1_moveCopy_163 : decode cX1_moveCopy 163 = .ok (.getfield 216, 3) := by decide +kernel
theorem dX1_moveCopy_166 : decode cX1_moveCopy 166 = .ok (.iload 12, 2) := by decide +kernel
theorem dX1_moveCopy_168 : decode cX1_moveCopy 168 = .ok (.iaload, 1) := by decide +kernel
theorem dX1_moveCopy_169 : decode cX1_moveCopy 169 = .ok (.aload_n 0, 1) := by decide +kernel
theorem dX1_moveCopy_170 : decode cX1_moveCopy 170 = .ok (.getfield 40, 3) := by decide +kernel
theorem dX1_moveCopy_173 : decode cX1_moveCopy 173 = .ok (.getfield 219, 3) := by decide +kernel
theorem dX1_moveCopy_176 : decode cX1_moveCopy 176 = .ok (.iload 12, 2) := by decide +kernel
theorem dX1_moveCopy_178 : decode cX1_moveCopy 178 = .ok (.iaload, 1) := by decide +kernel
theorem dX1_moveCopy_179 : decode cX1_moveCopy 179 = .ok (.iload 6, 2) := by decide +kernel
theorem dX1_moveCopy_181 : decode cX1_moveCopy 181 = .ok (.invokestatic 226, 3) := by decide +kernel
theorem dX1_moveCopy_184 : decode cX1_moveCopy 184 = .ok (.iadd, 1) := by decide +kernel
theorem dX1_moveCopy_185 : decode cX1_moveCopy 185 = .ok (.iastore, 1) := by decide +kernel
theorem dX1_moveCopy_186 : decode cX1_moveCopy 186 = .ok (.aload_n 0, 1) := by decide +kernel
theorem dX1_moveCopy_187 : decode cX1_moveCopy 187 = .ok (.getfield 28, 3) := by decide +kernel
theorem dX1_moveCopy_190 : decode cX1_moveCopy 190 = .ok (.iload 11, 2) := by decide +kernel
theorem dX1_moveCopy_192 : decode cX1_moveCopy 192 = .ok (.aload_n 0, 1) := by decide +kernel
theorem dX1_moveCopy_193 : decode cX1_moveCopy 193 = .ok (.getfield 40, 3) := by decide +kernel
theorem dX1_moveCopy_196 : decode cX1_moveCopy 196 = .ok (.getfield 229, 3) := by decide +kernel
theorem dX1_moveCopy_199 : decode cX1_moveCopy 199 = .ok (.iload 12, 2) := by decide +kernel
theorem dX1_moveCopy_201 : decode cX1_moveCopy 201 = .ok (.iaload, 1) := by decide +kernel
theorem dX1_moveCopy_202 : decode cX1_moveCopy 202 = .ok (.iastore, 1) := by decide +kernel
theorem dX1_moveCopy_203 : decode cX1_moveCopy 203 = .ok (.iinc 10 1, 3) := by decide +kernel
theorem dX1_moveCopy_206 : decode cX1_moveCopy 206 = .ok (.goto (-136), 3) := by decide +kernel
theorem dX1_moveCopy_209 : decode cX1_moveCopy 209 = .ok (.return_, 1) := by decide +kernel
abbrev rm_f_X1_moveCopy : Room := { frames := 2, cells := 0, slots := 0, locals := 49 }
def f_X1_moveCopy_L70 (N : Nat) (o1 : Nat) (K15 : (St → Option (St))) (y6 : Int) (y7 : Int) (y8 : Int) (y9 : Int) (y10 : Int) (y11 : Int) (y12 : Int) : Nat → Int → St → Option (St)
  | 0, _, _ => none
  | n9 + 1, x13, t14 =>
    ixI y9 40 (lt1 (t14.1 350 y9.toNat) fun v16 =>
    cmpI x13 v16 (if x13 < v16 then (bdI (f_X2_whoIsIn N o1 y9 y7 y8 x13 t14) fun v18 t17 =>
    jn1 (fun (t19 : St) => f_X1_moveCopy_L70 N o1 K15 y6 y7 y8 y9 y10 y11 y12 n9 (x13 + 1) t19) fun J20 =>
    cmpI v18 0 (if v18 < 0 then (J20 t17)
    else (ixI ((y6 * 8) + x13) 800 (lt1 (t17.1 357 ((y6 * 8) + x13).toNat) fun v21 =>
    ixI ((y6 * 8) + x13) 800 (lt1 (t17.1 358 ((y6 * 8) + x13).toNat) fun v22 =>
    bdI (f_X0_turnedX N v21 v22 y10 t17) fun v24 t23 =>
    ixI v18 64 (lt1 (pI t23 373 v18.toNat (y11 + v24)) fun t25 =>
    ixI ((y6 * 8) + x13) 800 (lt1 (t25.1 357 ((y6 * 8) + x13).toNat) fun v26 =>
    ixI ((y6 * 8) + x13) 800 (lt1 (t25.1 358 ((y6 * 8) + x13).toNat) fun v27 =>
    bdI (f_X0_turnedY N v26 v27 y10 t25) fun v29 t28 =>
    ixI v18 64 (lt1 (pI t28 374 v18.toNat (y12 + v29)) fun t30 =>
    ixI ((y6 * 8) + x13) 800 (lt1 (t30.1 359 ((y6 * 8) + x13).toNat) fun v31 =>
    ixI v18 64 (lt1 (pI t30 375 v18.toNat v31) fun t32 =>
    J20 t32)))))))))))
    else (K15 t14)))
def f_X1_moveCopy (N : Nat) (o1 : Nat) (a1 : Int) (a2 : Int) (a3 : Int) (t : St) : Option (St) :=
    ixI a1 100 (lt1 (t.1 354 a1.toNat) fun v1 =>
    ixI a3 64 (lt1 (t.1 (390 + 10 * o1) a3.toNat) fun v2 =>
    ixI (((v1 * 8) * 4) + a2) 1280 (lt1 (t.1 351 (((v1 * 8) * 4) + a2).toNat) fun v3 =>
    ixI a3 64 (lt1 (t.1 (391 + 10 * o1) a3.toNat) fun v4 =>
    ixI (((v1 * 8) * 4) + a2) 1280 (lt1 (t.1 352 (((v1 * 8) * 4) + a2).toNat) fun v5 =>
    f_X1_moveCopy_L70 N o1 (fun (t33 : St) => some t33) a1 a2 a3 v1 (a2 % 4) (v2 - v3) (v4 - v5) N 0 t)))))
set_option maxHeartbeats 4000000 in
set_option maxRecDepth 100000 in
theorem t_f_X1_moveCopy_L70 {p : Program} {l : Launch} {e : Env} {s : State} {m : MethodId} {args : Array Value} {below : List Frame} {meth : Method} {c : Code} {E : cE} {A : Nat → Prop} {r : Nat → Nat} {mc ms : Nat} {z : St} {o1 : Nat} (ho1 : o1 < 2) {N : Nat} {K15 : (St → Option (St))} {y6 : Int} {y7 : Int} {y8 : Int} {y9 : Int} {y10 : Int} {y11 : Int} {y12 : Int} (X : gX p s m meth c cX1_moveCopy 13 none yX1_moveCopy args E A) (hK15 : ∀ (t9 : St), K15 t9 = some z → gP p l e rm_f_X1_moveCopy s m args below meth c E A 13 (MQ below ((gqV E (gW E r shH) z) A) args s mc ms A) (gW E r shH) 209 [] [] t9) : ∀ (n9 : Nat) (x13 : Int) (t14 : St), f_X1_moveCopy_L70 N o1 K15 y6 y7 y8 y9 y10 y11 y12 n9 x13 t14 = some z → gP p l e rm_f_X1_moveCopy s m args below meth c E A 13 (MQ below ((gqV E (gW E r shH) z) A) args s mc ms A) (gW E r shH) 70 [(0, .ref (r 304)), (1, .ref (r (305 + o1))), (2, iv y6), (3, iv y7), (4, iv y8), (5, iv y9), (6, iv y10), (8, iv y11), (9, iv y12), (10, iv x13)] [] t14 := by
  intro n9
  induction n9 with
  | zero => intro x13 t14 h; cases h
  | succ n9 ih =>
    intro x13 t14 h
    unfold f_X1_moveCopy_L70 at h
    refine g_iload X dX1_moveCopy_70 9 rfl ?_
    refine g_aload_n X dX1_moveCopy_72 0 rfl ?_
    refine g_getR X fH_X1_40_304 rfl dX1_moveCopy_73 ?_
    refine g_getR X fH_X1_209_302 rfl dX1_moveCopy_76 ?_
    refine g_iload X dX1_moveCopy_79 5 rfl ?_
    refine g_iald X aH_350 dX1_moveCopy_81 h (fun v16 h => ?_)
    refine g_icmp_ge (tgt := 209) X dX1_moveCopy_82 (by decide) h (fun h => ?_) (fun h => ?_)
    · exact g_sub (lv' := []) [] rfl (hK15 t14 h)
    · refine g_aload_n X dX1_moveCopy_85 0 rfl ?_
      refine g_getR X fH_X1_49_304 rfl dX1_moveCopy_86 ?_
      refine g_aload_n X dX1_moveCopy_89 1 rfl ?_
      refine g_iload X dX1_moveCopy_90 5 rfl ?_
      refine g_iload_n X dX1_moveCopy_92 3 rfl ?_
      refine g_iload X dX1_moveCopy_93 4 rfl ?_
      refine g_iload X dX1_moveCopy_95 9 rfl ?_
      refine g_callOI (rest := []) X (fun u9 h9 => cp_X2_whoIsIn l E r N o1 ho1 y9 y7 y8 x13 t14 u9 h9) yy_X2_whoIsIn yi_X2_whoIsIn wdM_RX1_212 ⟨_, _, oH_311⟩ rfl rfl rfl (Nat.le_of_ble_eq_true rfl) dX1_moveCopy_97 ⟨by decide, by decide⟩ ⟨rfl, rfl⟩ h (fun v18 t17 h => ?_)
      refine g_istore (lv' := [(11, iv v18), (0, .ref (r 304)), (1, .ref (r (305 + o1))), (2, iv y6), (3, iv y7), (4, iv y8), (5, iv y9), (6, iv y10), (8, iv y11), (9, iv y12), (10, iv x13)]) X dX1_moveCopy_100 (by decide) rfl ?_
      refine g_iload_n X dX1_moveCopy_102 3 rfl ?_
      refine g_bipush X dX1_moveCopy_103 (by decide) ?_
      refine g_imul X dX1_moveCopy_105 ?_
      refine g_iload X dX1_moveCopy_106 10 rfl ?_
      refine g_iadd X dX1_moveCopy_108 ?_
      refine g_istore (lv' := [(12, iv ((y6 * 8) + x13)), (11, iv v18), (0, .ref (r 304)), (1, .ref (r (305 + o1))), (2, iv y6), (3, iv y7), (4, iv y8), (5, iv y9), (6, iv y10), (8, iv y11), (9, iv y12), (10, iv x13)]) X dX1_moveCopy_109 (by decide) rfl ?_
      refine g_iload X dX1_moveCopy_111 1 rfl ?_
      refine g_join (J := fun jj => ∀ (t19 : St), jj  t19 = some z → gP p l e rm_f_X1_moveCopy s m args below meth c E A 13 (MQ below ((gqV E (gW E r shH) z) A) args s mc ms A) (gW E r shH) 203 [(0, .ref (r 304)), (1, .ref (r (305 + o1))), (2, iv y6), (3, iv y7), (4, iv y8), (5, iv y9), (6, iv y10), (8, iv y11), (9, iv y12), (10, iv x13)] [] t19) h (fun  t19 h => ?_) (fun J20 hJ20 h => ?_)
      · refine g_iinc (lv' := [(10, iv (x13 + 1)), (0, .ref (r 304)), (1, .ref (r (305 + o1))), (2, iv y6), (3, iv y7), (4, iv y8), (5, iv y9), (6, iv y10), (8, iv y11), (9, iv y12)]) X dX1_moveCopy_203 (k := 9) rfl (by decide) rfl ?_
        refine g_goto (tgt := 70) X dX1_moveCopy_206 (by decide) ?_
        exact g_sub (lv' := [(0, .ref (r 304)), (1, .ref (r (305 + o1))), (2, iv y6), (3, iv y7), (4, iv y8), (5, iv y9), (6, iv y10), (8, iv y11), (9, iv y12), (10, iv (x13 + 1))]) [1, 2, 3, 4, 5, 6, 7, 8, 9, 0] rfl (ih (x13 + 1) t19 h)
      refine g_if_lt (tgt := 203) X dX1_moveCopy_113 (by decide) h (fun h => ?_) (fun h => ?_)
      · exact g_sub (lv' := [(0, .ref (r 304)), (1, .ref (r (305 + o1))), (2, iv y6), (3, iv y7), (4, iv y8), (5, iv y9), (6, iv y10), (8, iv y11), (9, iv y12), (10, iv x13)]) [2, 3, 4, 5, 6, 7, 8, 9, 10, 11] rfl (hJ20 t17 h)
      · refine g_aload_n X dX1_moveCopy_116 2 rfl ?_
        refine g_getR X fH_X1_22_304 rfl dX1_moveCopy_117 ?_
        refine g_iload X dX1_moveCopy_120 1 rfl ?_
        refine g_iload X dX1_moveCopy_122 9 rfl ?_
        refine g_aload_n X dX1_moveCopy_124 2 rfl ?_
        refine g_getR X fH_X1_40_304 rfl dX1_moveCopy_125 ?_
        refine g_getR X fH_X1_216_302 rfl dX1_moveCopy_128 ?_
        refine g_iload X dX1_moveCopy_131 0 rfl ?_
        refine g_iald X aH_357 dX1_moveCopy_133 h (fun v21 h => ?_)
        refine g_aload_n X dX1_moveCopy_134 2 rfl ?_
        refine g_getR X fH_X1_40_304 rfl dX1_moveCopy_135 ?_
        refine g_getR X fH_X1_219_302 rfl dX1_moveCopy_138 ?_
        refine g_iload X dX1_moveCopy_141 0 rfl ?_
        refine g_iald X aH_358 dX1_moveCopy_143 h (fun v22 h => ?_)
        refine g_iload X dX1_moveCopy_144 8 rfl ?_
        refine g_callsI (rest := [iv y11, iv v18, .ref (r 373)]) X (fun u9 h9 => cp_X0_turnedX l E r N v21 v22 y10 t17 u9 h9) yy_X0_turnedX wdT_X0_turnedX wdM_RX1_222 rfl rfl (Nat.le_of_ble_eq_true rfl) dX1_moveCopy_146 ⟨by decide, by decide⟩ ⟨rfl, rfl⟩ h (fun v24 t23 h => ?_)
        refine g_iadd X dX1_moveCopy_149 ?_
        refine g_iast X aH_373 dX1_moveCopy_150 h (fun t25 h => ?_)
        refine g_aload_n X dX1_moveCopy_151 2 rfl ?_
        refine g_getR X fH_X1_25_304 rfl dX1_moveCopy_152 ?_
        refine g_iload X dX1_moveCopy_155 1 rfl ?_
        refine g_iload X dX1_moveCopy_157 10 rfl ?_
        refine g_aload_n X dX1_moveCopy_159 2 rfl ?_
        refine g_getR X fH_X1_40_304 rfl dX1_moveCopy_160 ?_
        refine g_getR X fH_X1_216_302 rfl dX1_moveCopy_163 ?_
        refine g_iload X dX1_moveCopy_166 0 rfl ?_
        refine g_iald X aH_357 dX1_moveCopy_168 h (fun v26 h => ?_)
        refine g_aload_n X dX1_moveCopy_169 2 rfl ?_
        refine g_getR X fH_X1_40_304 rfl dX1_moveCopy_170 ?_
        refine g_getR X fH_X1_219_302 rfl dX1_moveCopy_173 ?_
        refine g_iload X dX1_moveCopy_176 0 rfl ?_
        refine g_iald X aH_358 dX1_moveCopy_178 h (fun v27 h => ?_)
        refine g_iload X dX1_moveCopy_179 8 rfl ?_
        refine g_callsI (rest := [iv y12, iv v18, .ref (r 374)]) X (fun u9 h9 => cp_X0_turnedY l E r N v26 v27 y10 t25 u9 h9) yy_X0_turnedY wdT_X0_turnedY wdM_RX1_226 rfl rfl (Nat.le_of_ble_eq_true rfl) dX1_moveCopy_181 ⟨by decide, by decide⟩ ⟨rfl, rfl⟩ h (fun v29 t28 h => ?_)
        refine g_iadd X dX1_moveCopy_184 ?_
        refine g_iast X aH_374 dX1_moveCopy_185 h (fun t30 h => ?_)
        refine g_aload_n X dX1_moveCopy_186 2 rfl ?_
        refine g_getR X fH_X1_28_304 rfl dX1_moveCopy_187 ?_
        refine g_iload X dX1_moveCopy_190 1 rfl ?_
        refine g_aload_n X dX1_moveCopy_192 2 rfl ?_
        refine g_getR X fH_X1_40_304 rfl dX1_moveCopy_193 ?_
        refine g_getR X fH_X1_229_302 rfl dX1_moveCopy_196 ?_
        refine g_iload X dX1_moveCopy_199 0 rfl ?_
        refine g_iald X aH_359 dX1_moveCopy_201 h (fun v31 h => ?_)
        refine g_iast X aH_375 dX1_moveCopy_202 h (fun t32 h => ?_)
        exact g_sub (lv' := [(0, .ref (r 304)), (1, .ref (r (305 + o1))), (2, iv y6), (3, iv y7), (4, iv y8), (5, iv y9), (6, iv y10), (8, iv y11), (9, iv y12), (10, iv x13)]) [2, 3, 4, 5, 6, 7, 8, 9, 10, 11] rfl (hJ20 t32 h)
set_option maxHeartbeats 4000000 in
set_option maxRecDepth 100000 in
theorem b_f_X1_moveCopy {p : Program} {l : Launch} {e : Env} {s : State} {m : MethodId} {args : Array Value} {below : List Frame} {meth : Method} {c : Code} {E : cE} {A : Nat → Prop} {r : Nat → Nat} {mc ms : Nat} {z : St} {N : Nat} {o1 : Nat} (ho1 : o1 < 2) {a1 : Int} {a2 : Int} {a3 : Int} {t : St} (X : gX p s m meth c cX1_moveCopy 13 none yX1_moveCopy args E A) (h : f_X1_moveCopy N o1 a1 a2 a3 t = some z) : gP p l e rm_f_X1_moveCopy s m args below meth c E A 13 (MQ below ((gqV E (gW E r shH) z) A) args s mc ms A) (gW E r shH) 0 [(0, .ref (r 304)), (1, .ref (r (305 + o1))), (2, iv a1), (3, iv a2), (4, iv a3)] [] t := by
  unfold f_X1_moveCopy at h
  refine g_aload_n X dX1_moveCopy_0 0 rfl ?_
  refine g_getR X fH_X1_40_304 rfl dX1_moveCopy_1 ?_
  refine g_getR X fH_X1_181_302 rfl dX1_moveCopy_4 ?_
  refine g_iload_n X dX1_moveCopy_7 2 rfl ?_
  refine g_iald X aH_354 dX1_moveCopy_8 h (fun v1 h => ?_)
  refine g_istore (lv' := [(5, iv v1), (0, .ref (r 304)), (1, .ref (r (305 + o1))), (2, iv a1), (3, iv a2), (4, iv a3)]) X dX1_moveCopy_9 (by decide) rfl ?_
  refine g_iload_n X dX1_moveCopy_11 4 rfl ?_
  refine g_iconst X dX1_moveCopy_12 ?_
  refine g_mask X 2 (by decide) (M := 4) (by decide) (by decide) dX1_moveCopy_13 ?_
  refine g_istore (lv' := [(6, iv (a2 % 4)), (5, iv v1), (0, .ref (r 304)), (1, .ref (r (305 + o1))), (2, iv a1), (3, iv a2), (4, iv a3)]) X dX1_moveCopy_14 (by decide) rfl ?_
  refine g_iload X dX1_moveCopy_16 1 rfl ?_
  refine g_bipush X dX1_moveCopy_18 (by decide) ?_
  refine g_imul X dX1_moveCopy_20 ?_
  refine g_iconst X dX1_moveCopy_21 ?_
  refine g_imul X dX1_moveCopy_22 ?_
  refine g_iload_n X dX1_moveCopy_23 5 rfl ?_
  refine g_iadd X dX1_moveCopy_24 ?_
  refine g_istore (lv' := [(7, iv (((v1 * 8) * 4) + a2)), (6, iv (a2 % 4)), (5, iv v1), (0, .ref (r 304)), (1, .ref (r (305 + o1))), (2, iv a1), (3, iv a2), (4, iv a3)]) X dX1_moveCopy_25 (by decide) rfl ?_
  refine g_aload_n X dX1_moveCopy_27 4 rfl ?_
  refine g_getR X (fH_X1_162_o (o := o1) ho1) rfl dX1_moveCopy_28 ?_
  refine g_iload X dX1_moveCopy_31 7 rfl ?_
  refine g_iald X (aF_0 (o := o1) ho1) dX1_moveCopy_33 h (fun v2 h => ?_)
  refine g_aload_n X dX1_moveCopy_34 3 rfl ?_
  refine g_getR X fH_X1_40_304 rfl dX1_moveCopy_35 ?_
  refine g_getR X fH_X1_203_302 rfl dX1_moveCopy_38 ?_
  refine g_iload X dX1_moveCopy_41 0 rfl ?_
  refine g_iald X aH_351 dX1_moveCopy_43 h (fun v3 h => ?_)
  refine g_isub X dX1_moveCopy_44 ?_
  refine g_istore (lv' := [(8, iv (v2 - v3)), (7, iv (((v1 * 8) * 4) + a2)), (6, iv (a2 % 4)), (5, iv v1), (0, .ref (r 304)), (1, .ref (r (305 + o1))), (2, iv a1), (3, iv a2), (4, iv a3)]) X dX1_moveCopy_45 (by decide) rfl ?_
  refine g_aload_n X dX1_moveCopy_47 5 rfl ?_
  refine g_getR X (fH_X1_163_o (o := o1) ho1) rfl dX1_moveCopy_48 ?_
  refine g_iload X dX1_moveCopy_51 8 rfl ?_
  refine g_iald X (aF_1 (o := o1) ho1) dX1_moveCopy_53 h (fun v4 h => ?_)
  refine g_aload_n X dX1_moveCopy_54 4 rfl ?_
  refine g_getR X fH_X1_40_304 rfl dX1_moveCopy_55 ?_
  refine g_getR X fH_X1_206_302 rfl dX1_moveCopy_58 ?_
  refine g_iload X dX1_moveCopy_61 1 rfl ?_
  refine g_iald X aH_352 dX1_moveCopy_63 h (fun v5 h => ?_)
  refine g_isub X dX1_moveCopy_64 ?_
  refine g_istore (lv' := [(9, iv (v4 - v5)), (8, iv (v2 - v3)), (7, iv (((v1 * 8) * 4) + a2)), (6, iv (a2 % 4)), (5, iv v1), (0, .ref (r 304)), (1, .ref (r (305 + o1))), (2, iv a1), (3, iv a2), (4, iv a3)]) X dX1_moveCopy_65 (by decide) rfl ?_
  refine g_iconst X dX1_moveCopy_67 ?_
  refine g_istore (lv' := [(10, iv 0), (9, iv (v4 - v5)), (8, iv (v2 - v3)), (7, iv (((v1 * 8) * 4) + a2)), (6, iv (a2 % 4)), (5, iv v1), (0, .ref (r 304)), (1, .ref (r (305 + o1))), (2, iv a1), (3, iv a2), (4, iv a3)]) X dX1_moveCopy_68 (by decide) rfl ?_
  refine g_sub (lv' := [(0, .ref (r 304)), (1, .ref (r (305 + o1))), (2, iv a1), (3, iv a2), (4, iv a3), (5, iv v1), (6, iv (a2 % 4)), (8, iv (v2 - v3)), (9, iv (v4 - v5)), (10, iv 0)]) [6, 7, 8, 9, 10, 5, 4, 2, 1, 0] rfl (t_f_X1_moveCopy_L70 ho1 X (fun t33 h => ?_) N 0 t h)
  · exact g_vret X h dX1_moveCopy_209
set_option maxHeartbeats 4000000 in
set_option maxRecDepth 100000 in
theorem cp_X1_moveCopy (l : Launch) (E : cE) (r : Nat → Nat) (N : Nat) (o1 : Nat) (ho1 : o1 < 2) (a1 : Int) (a2 : Int) (a3 : Int) (t : St) (z : St) (h : f_X1_moveCopy N o1 a1 a2 a3 t = some z) : cM l E yX1_moveCopy cX1_moveCopy 13 none rm_f_X1_moveCopy [.ref (r 304), .ref (r (305 + o1)), iv a1, iv a2, iv a3] (gW E r shH t) (gqV E (gW E r shH) z) := by
  refine g_of (w := gW E r shH) (by decide) (Nat.le_of_ble_eq_true rfl) ?_
  intro p e s m below meth c A X
  exact g_sub (lv' := [(0, .ref (r 304)), (1, .ref (r (305 + o1))), (2, iv a1), (3, iv a2), (4, iv a3)]) [0, 1, 2, 3, 4] rfl (b_f_X1_moveCopy ho1 X h)
theorem yy_X1_moveCopy : cY yX1_moveCopy cX1_moveCopy 13 none 4 := ⟨wdK_X1_moveCopy, wdZ_RX1, by decide +kernel⟩
theorem yi_X1_moveCopy : cYi yX1_moveCopy := ⟨wdN_X1_moveCopy, wdS_X1_moveCopy⟩
theorem dX1_move_0 : decode cX1_move 0 = .ok (.lload_n 3, 1) := by decide +kernel
theorem dX1_move_1 : decode cX1_move 1 = .ok (.lconst 0, 1) := by decide +kernel
theorem dX1_move_2 : decode cX1_move 2 = .ok (.lcmp, 1) := by decide +kernel
theorem dX1_move_3 : decode cX1_move 3 = .ok (.ifCond .ne 11, 3) := by decide +kernel
theorem dX1_move_6 : decode cX1_move 6 = .ok (.aload_n 0, 1) := by decide +kernel
theorem dX1_move_7 : decode cX1_move 7 = .ok (.iconst 1, 1) := by decide +kernel
theorem dX1_move_8 : decode cX1_move 8 = .ok (.iconst (-1), 1) := by decide +kernel
theorem dX1_move_9 : decode cX1_move 9 = .ok (.iconst (-1), 1) := by decide +kernel
theorem dX1_move_10 : decode cX1_move 10 = .ok (.invokevirtual 173, 3) := by decide +kernel
theorem dX1_move_13 : decode cX1_move 13 = .ok (.ireturn, 1) := by decide +kernel
theorem dX1_move_14 : decode cX1_move 14 = .ok (.lload_n 3, 1) := by decide +kernel
theorem dX1_move_15 : decode cX1_move 15 = .ok (.lload 5, 2) := by decide +kernel
theorem dX1_move_17 : decode cX1_move 17 = .ok (.land, 1) := by decide +kernel
theorem dX1_move_18 : decode cX1_move 18 = .ok (.lconst 0, 1) := by decide +kernel
theorem dX1_move_19 : decode cX1_move 19 = .ok (.lcmp, 1) := by decide +kernel
theorem dX1_move_20 : decode cX1_move 20 = .ok (.ifCond .eq 21, 3) := by decide +kernel
theorem dX1_move_23 : decode cX1_move 23 = .ok (.aload_n 0, 1) := by decide +kernel
theorem dX1_move_24 : decode cX1_move 24 = .ok (.iconst 2, 1) := by decide +kernel
theorem dX1_move_25 : decode cX1_move 25 = .ok (.lload_n 3, 1) := by decide +kernel
theorem dX1_move_26 : decode cX1_move 26 = .ok (.lload 5, 2) := by decide +kernel
theorem dX1_move_28 : decode cX1_move 28 = .ok (.land, 1) := by decide +kernel
theorem dX1_move_29 : decode cX1_move 29 = .ok (.aload_n 1, 1) := by decide +kernel
theorem dX1_move_30 : decode cX1_move 30 = .ok (.getfield 149, 3) := by decide +kernel
theorem dX1_move_33 : decode cX1_move 33 = .ok (.invokestatic 177, 3) := by decide +kernel
theorem dX1_move_36 : decode cX1_move 36 = .ok (.iconst (-1), 1) := by decide +kernel
theorem dX1_move_37 : decode cX1_move 37 = .ok (.invokevirtual 173, 3) := by decide +kernel
theorem dX1_move_40 : decode cX1_move 40 = .ok (.ireturn, 1) := by decide +kernel
theorem dX1_move_41 : decode cX1_move 41 = .ok (.aload_n 0, 1) := by decide +kernel
theorem dX1_move_42 : decode cX1_move 42 = .ok (.getfield 40, 3) := by decide +kernel
theorem dX1_move_45 : decode cX1_move 45 = .ok (.getfield 181, 3) := by decide +kernel
theorem dX1_move_48 : decode cX1_move 48 = .ok (.iload_n 2, 1) := by decide +kernel
theorem dX1_move_49 : decode cX1_move 49 = .ok (.iaload, 1) := by decide +kernel
theorem dX1_move_50 : decode cX1_move 50 = .ok (.istore 7, 2) := by decide +kernel
theorem dX1_move_52 : decode cX1_move 52 = .ok (.aload_n 0, 1) := by decide +kernel
theorem dX1_move_53 : decode cX1_move 53 = .ok (.getfield 49, 3) := by decide +kernel
theorem dX1_move_56 : decode cX1_move 56 = .ok (.aload_n 1, 1) := by decide +kernel
theorem dX1_move_57 : decode cX1_move 57 = .ok (.iload 7, 2) := by decide +kernel
theorem dX1_move_59 : decode cX1_move 59 = .ok (.lload_n 3, 1) := by decide +kernel
theorem dX1_move_60 : decode cX1_move 60 = .ok (.invokevirtual 84, 3) := by decide +kernel
theorem dX1_move_63 : decode cX1_move 63 = .ok (.istore 8, 2) := by decide +kernel
theorem dX1_move_65 : decode cX1_move 65 = .ok (.iload 8, 2) := by decide +kernel
theorem dX1_move_67 : decode cX1_move 67 = .ok (.ifCond .eq 16, 3) := by decide +kernel
theorem dX1_move_70 : decode cX1_move 70 = .ok (.aload_n 0, 1) := by decide +kernel
theorem dX1_move_71 : decode cX1_move 71 = .ok (.iload 8, 2) := by decide +kernel
theorem dX1_move_73 : decode cX1_move 73 = .ok (.aload_n 1, 1) := by decide +kernel
theorem dX1_move_74 : decode cX1_move 74 = .ok (.lload_n 3, 1) := by decide +kernel
theorem dX1_move_75 : decode cX1_move 75 = .ok (.invokevirtual 184, 3) := by decide +kernel
theorem dX1_move_78 : decode cX1_move 78 = .ok (.iconst (-1), 1) := by decide +kernel
theorem dX1_move_79 : decode cX1_move 79 = .ok (.invokevirtual 173, 3) := by decide +kernel
theorem dX1_move_82 : decode cX1_move 82 = .ok (.ireturn, 1) := by decide +kernel
theorem dX1_move_83 : decode cX1_move 83 = .ok (.iconst 0, 1) := by decide +kernel
theorem dX1_move_84 : decode cX1_move 84 = .ok (.istore 9, 2) := by decide +kernel
theorem dX1_move_86 : decode cX1_move 86 = .ok (.iload 9, 2) := by decide +kernel
theorem dX1_move_88 : decode cX1_move 88 = .ok (.aload_n 0, 1) := by decide +kernel
theorem dX1_move_89 : decode cX1_move 89 = .ok (.getfield 49, 3) := by decide +kernel
theorem dX1_move_92 : decode cX1_move 92 = .ok (.getfield 187, 3) := by decide +kernel
theorem dX1_move_95 : decode cX1_move 95 = .ok (.if_icmp .ge 38, 3) := by decide +kernel
theorem dX1_move_98 : decode cX1_move 98 = .ok (.aload_n 0, 1) := by decide +kernel
theorem dX1_move_99 : decode cX1_move 99 = .ok (.aload_n 1, 1) := by decide +kernel
theorem dX1_move_100 : decode cX1_move 100 = .ok (.iload_n 2, 1) := by decide +kernel
theorem dX1_move_101 : decode cX1_move 101 = .ok (.aload_n 0, 1) := by decide +kernel
theorem dX1_move_102 : decode cX1_move 102 = .ok (.getfield 49, 3) := by decide +kernel
theorem dX1_move_105 : decode cX1_move 105 = .ok (.iload 9, 2) := by decide +kernel
theorem dX1_move_107 : decode cX1_move 107 = .ok (.invokevirtual 190, 3) := by decide +kernel
theorem dX1_move_110 : decode cX1_move 110 = .ok (.aload_n 1, 1) := by decide +kernel
theorem dX1_move_111 : decode cX1_move 111 = .ok (.getfield 193, 3) := by decide +kernel
theorem dX1_move_114 : decode cX1_move 114 = .ok (.aload_n 0, 1) := by decide +kernel
theorem dX1_move_115 : decode cX1_move 115 = .ok (.getfield 49, 3) := by decide +kernel
theorem dX1_move_118 : decode cX1_move 118 = .ok (.iload 9, 2) := by decide +kernel
theorem dX1_move_120 : decode cX1_move 120 = .ok (.invokevirtual 196, 3) := by decide +kernel
theorem dX1_move_123 : decode cX1_move 123 = .ok (.iaload, 1) := by decide +kernel
theorem dX1_move_124 : decode cX1_move 124 = .ok (.invokevirtual 199, 3) := by decide +kernel
theorem dX1_move_127 : decode cX1_move 127 = .ok (.iinc 9 1, 3) := by decide +kernel
theorem dX1_move_130 : decode cX1_move 130 = .ok (.goto (-44), 3) := by decide +kernel
theorem dX1_move_133 : decode cX1_move 133 = .ok (.iconst 1, 1) := by decide +kernel
theorem dX1_move_134 : decode cX1_move 134 = .ok (.ireturn, 1) := by decide +kernel
abbrev rm_f_X1_move : Room := { frames := 3, cells := 0, slots := 0, locals := 91 }
def f_X1_move_L86 (N : Nat) (o1 : Nat) (K7 : (St → Option (Int × St))) (y4 : Int) : Nat → Int → St → Option (Int × St)
  | 0, _, _ => none
  | n9 + 1, x5, t6 =>
    lt1 (t6.1 311 9) fun v8 =>
    cmpI x5 v8 (if x5 < v8 then (bdI (f_X2_copyAt N x5 t6) fun v10 t9 =>
    bdI (f_X2_firstAt N x5 t9) fun v12 t11 =>
    ixI v12 64 (lt1 (t11.1 (395 + 10 * o1) v12.toNat) fun v13 =>
    bdV (f_X1_moveCopy N o1 y4 v10 v13 t11) fun t14 =>
    f_X1_move_L86 N o1 K7 y4 n9 (x5 + 1) t14))
    else (K7 t6))
def f_X1_move (N : Nat) (o1 : Nat) (a1 : Int) (a2 : Int64) (a3 : Int64) (t : St) : Option (Int × St) :=
    (if a2 = (0 : Int64) then (bdI (f_X1_blame N 1 (-1) (-1) t) fun v26 t25 =>
    boI v26 (some (v26, t25)))
    else ((if (a2 &&& a3) = (0 : Int64) then (ixI a1 100 (lt1 (t.1 354 a1.toNat) fun v1 =>
    bdI (f_X2_part N o1 v1 a2 t) fun v3 t2 =>
    cmpI v3 0 (if v3 = 0 then (f_X1_move_L86 N o1 (fun (t15 : St) => boI 1 (some (1, t15))) a1 N 0 t2)
    else (bdI (f_X3_firstDancerOf N o1 a2 t2) fun v17 t16 =>
    bdI (f_X1_blame N v3 v17 (-1) t16) fun v19 t18 =>
    boI v19 (some (v19, t18))))))
    else (lt1 (t.1 (305 + o1) 8) fun v20 =>
    bdI (f_X1_leastOf N (a2 &&& a3) v20 t) fun v22 t21 =>
    bdI (f_X1_blame N 2 v22 (-1) t21) fun v24 t23 =>
    boI v24 (some (v24, t23))))))
set_option maxHeartbeats 4000000 in
set_option maxRecDepth 100000 in
theorem t_f_X1_move_L86 {p : Program} {l : Launch} {e : Env} {s : State} {m : MethodId} {args : Array Value} {below : List Frame} {meth : Method} {c : Code} {E : cE} {A : Nat → Prop} {r : Nat → Nat} {mc ms : Nat} {z : Int × St} {o1 : Nat} (ho1 : o1 < 2) {N : Nat} {K7 : (St → Option (Int × St))} {y4 : Int} (X : gX p s m meth c cX1_move 10 (some .boolean) yX1_move args E A) (hK7 : ∀ (t9 : St), K7 t9 = some z → gP p l e rm_f_X1_move s m args below meth c E A 10 (MQ below ((gqI E (gW E r shH) z) A) args s mc ms A) (gW E r shH) 133 [] [] t9) : ∀ (n9 : Nat) (x5 : Int) (t6 : St), f_X1_move_L86 N o1 K7 y4 n9 x5 t6 = some z → gP p l e rm_f_X1_move s m args below meth c E A 10 (MQ below ((gqI E (gW E r shH) z) A) args s mc ms A) (gW E r shH) 86 [(0, .ref (r 304)), (1, .ref (r (305 + o1))), (2, iv y4), (9, iv x5)] [] t6 := by
  intro n9
  induction n9 with
  | zero => intro x5 t6 h; cases h
  | succ n9 ih =>
    intro x5 t6 h
    unfold f_X1_move_L86 at h
    refine g_iload X dX1_move_86 3 rfl ?_
    refine g_aload_n X dX1_move_88 0 rfl ?_
    refine g_getR X fH_X1_49_304 rfl dX1_move_89 ?_
    refine g_getI X fH_X1_187_311 rfl dX1_move_92 h (fun v8 h => ?_)
    refine g_icmp_ge (tgt := 133) X dX1_move_95 (by decide) h (fun h => ?_) (fun h => ?_)
    · exact g_sub (lv' := []) [] rfl (hK7 t6 h)
    · refine g_aload_n X dX1_move_98 0 rfl ?_
      refine g_aload_n X dX1_move_99 1 rfl ?_
      refine g_iload_n X dX1_move_100 2 rfl ?_
      refine g_aload_n X dX1_move_101 0 rfl ?_
      refine g_getR X fH_X1_49_304 rfl dX1_move_102 ?_
      refine g_iload X dX1_move_105 3 rfl ?_
      refine g_callOI (rest := [iv y4, .ref (r (305 + o1)), .ref (r 304)]) X (fun u9 h9 => cp_X2_copyAt l E r N x5 t6 u9 h9) yy_X2_copyAt yi_X2_copyAt wdM_RX1_190 ⟨_, _, oH_311⟩ rfl rfl rfl (Nat.le_of_ble_eq_true rfl) dX1_move_107 ⟨by decide, by decide⟩ ⟨rfl, rfl⟩ h (fun v10 t9 h => ?_)
      refine g_aload_n X dX1_move_110 1 rfl ?_
      refine g_getR X (fH_X1_193_o (o := o1) ho1) rfl dX1_move_111 ?_
      refine g_aload_n X dX1_move_114 0 rfl ?_
      refine g_getR X fH_X1_49_304 rfl dX1_move_115 ?_
      refine g_iload X dX1_move_118 3 rfl ?_
      refine g_callOI (rest := [.ref (r (395 + 10 * o1)), iv v10, iv y4, .ref (r (305 + o1)), .ref (r 304)]) X (fun u9 h9 => cp_X2_firstAt l E r N x5 t9 u9 h9) yy_X2_firstAt yi_X2_firstAt wdM_RX1_196 ⟨_, _, oH_311⟩ rfl rfl rfl (Nat.le_of_ble_eq_true rfl) dX1_move_120 ⟨by decide, by decide⟩ ⟨rfl, rfl⟩ h (fun v12 t11 h => ?_)
      refine g_iald X (aF_5 (o := o1) ho1) dX1_move_123 h (fun v13 h => ?_)
      refine g_callOV (rest := []) X (fun u9 h9 => cp_X1_moveCopy l E r N o1 ho1 y4 v10 v13 t11 u9 h9) yy_X1_moveCopy yi_X1_moveCopy wdM_RX1_199 ⟨_, _, oH_304⟩ rfl rfl rfl (Nat.le_of_ble_eq_true rfl) dX1_move_124 ⟨by decide, by decide⟩ ⟨rfl, rfl⟩ h (fun t14 h => ?_)
      refine g_iinc (lv' := [(9, iv (x5 + 1)), (0, .ref (r 304)), (1, .ref (r (305 + o1))), (2, iv y4)]) X dX1_move_127 (k := 3) rfl (by decide) rfl ?_
      refine g_goto (tgt := 86) X dX1_move_130 (by decide) ?_
      exact g_sub (lv' := [(0, .ref (r 304)), (1, .ref (r (305 + o1))), (2, iv y4), (9, iv (x5 + 1))]) [1, 2, 3, 0] rfl (ih (x5 + 1) t14 h)
set_option maxHeartbeats 4000000 in
set_option maxRecDepth 100000 in
theorem b_f_X1_move {p : Program} {l : Launch} {e : Env} {s : State} {m : MethodId} {args : Array Value} {below : List Frame} {meth : Method} {c : Code} {E : cE} {A : Nat → Prop} {r : Nat → Nat} {mc ms : Nat} {z : Int × St} {N : Nat} {o1 : Nat} (ho1 : o1 < 2) {a1 : Int} {a2 : Int64} {a3 : Int64} {t : St} (X : gX p s m meth c cX1_move 10 (some .boolean) yX1_move args E A) (h : f_X1_move N o1 a1 a2 a3 t = some z) : gP p l e rm_f_X1_move s m args below meth c E A 10 (MQ below ((gqI E (gW E r shH) z) A) args s mc ms A) (gW E r shH) 0 [(0, .ref (r 304)), (1, .ref (r (305 + o1))), (2, iv a1), (3, .long a2), (5, .long a3)] [] t := by
  unfold f_X1_move at h
  refine g_lload_n X dX1_move_0 3 rfl ?_
  refine g_lconst (v := 0) X dX1_move_1 (by decide) ?_
  refine g_lcmp_ne (tgt := 14) X dX1_move_2 dX1_move_3 (by decide) h (fun h => ?_) (fun h => ?_)
  · refine g_lload_n X dX1_move_14 3 rfl ?_
    refine g_lload X dX1_move_15 4 rfl ?_
    refine g_land X dX1_move_17 ?_
    refine g_lconst (v := 0) X dX1_move_18 (by decide) ?_
    refine g_lcmp_eq (tgt := 41) X dX1_move_19 dX1_move_20 (by decide) h (fun h => ?_) (fun h => ?_)
    · refine g_aload_n X dX1_move_41 0 rfl ?_
      refine g_getR X fH_X1_40_304 rfl dX1_move_42 ?_
      refine g_getR X fH_X1_181_302 rfl dX1_move_45 ?_
      refine g_iload_n X dX1_move_48 2 rfl ?_
      refine g_iald X aH_354 dX1_move_49 h (fun v1 h => ?_)
      refine g_istore (lv' := [(7, iv v1), (0, .ref (r 304)), (1, .ref (r (305 + o1))), (2, iv a1), (3, .long a2), (5, .long a3)]) X dX1_move_50 (by decide) rfl ?_
      refine g_aload_n X dX1_move_52 1 rfl ?_
      refine g_getR X fH_X1_49_304 rfl dX1_move_53 ?_
      refine g_aload_n X dX1_move_56 2 rfl ?_
      refine g_iload X dX1_move_57 0 rfl ?_
      refine g_lload_n X dX1_move_59 4 rfl ?_
      refine g_callOI (rest := []) X (fun u9 h9 => cp_X2_part l E r N o1 ho1 v1 a2 t u9 h9) yy_X2_part yi_X2_part wdM_RX1_84 ⟨_, _, oH_311⟩ rfl rfl rfl (Nat.le_of_ble_eq_true rfl) dX1_move_60 ⟨by decide, by decide⟩ ⟨rfl, rfl⟩ h (fun v3 t2 h => ?_)
      refine g_istore (lv' := [(8, iv v3), (7, iv v1), (0, .ref (r 304)), (1, .ref (r (305 + o1))), (2, iv a1), (3, .long a2), (5, .long a3)]) X dX1_move_63 (by decide) rfl ?_
      refine g_iload X dX1_move_65 0 rfl ?_
      refine g_if_eq (tgt := 83) X dX1_move_67 (by decide) h (fun h => ?_) (fun h => ?_)
      · refine g_iconst X dX1_move_83 ?_
        refine g_istore (lv' := [(9, iv 0), (8, iv v3), (7, iv v1), (0, .ref (r 304)), (1, .ref (r (305 + o1))), (2, iv a1), (3, .long a2), (5, .long a3)]) X dX1_move_84 (by decide) rfl ?_
        refine g_sub (lv' := [(0, .ref (r 304)), (1, .ref (r (305 + o1))), (2, iv a1), (9, iv 0)]) [3, 4, 5, 0] rfl (t_f_X1_move_L86 ho1 X (fun t15 h => ?_) N 0 t2 h)
        · refine g_iconst X dX1_move_133 ?_
          exact g_zret X h dX1_move_134
      · refine g_aload_n X dX1_move_70 2 rfl ?_
        refine g_iload X dX1_move_71 0 rfl ?_
        refine g_aload_n X dX1_move_73 3 rfl ?_
        refine g_lload_n X dX1_move_74 5 rfl ?_
        refine g_callOI (rest := [iv v3, .ref (r 304)]) X (fun u9 h9 => cp_X3_firstDancerOf l E r N o1 ho1 a2 t2 u9 h9) yy_X3_firstDancerOf yi_X3_firstDancerOf wdM_RX1_184 (oX3 (o := o1) ho1) rfl rfl rfl (Nat.le_of_ble_eq_true rfl) dX1_move_75 ⟨by decide, by decide⟩ ⟨rfl, rfl⟩ h (fun v17 t16 h => ?_)
        refine g_iconst X dX1_move_78 ?_
        refine g_callOI (rest := []) X (fun u9 h9 => cp_X1_blame l E r N v3 v17 (-1) t16 u9 h9) yy_X1_blame yi_X1_blame wdM_RX1_173 ⟨_, _, oH_304⟩ rfl rfl rfl (Nat.le_of_ble_eq_true rfl) dX1_move_79 ⟨by decide, by decide⟩ ⟨rfl, rfl⟩ h (fun v19 t18 h => ?_)
        exact g_zret X h dX1_move_82
    · refine g_aload_n X dX1_move_23 0 rfl ?_
      refine g_iconst X dX1_move_24 ?_
      refine g_lload_n X dX1_move_25 3 rfl ?_
      refine g_lload X dX1_move_26 4 rfl ?_
      refine g_land X dX1_move_28 ?_
      refine g_aload_n X dX1_move_29 1 rfl ?_
      refine g_getI X (fH_X1_149_o (o := o1) ho1) rfl dX1_move_30 h (fun v20 h => ?_)
      refine g_callsI (rest := [iv 2, .ref (r 304)]) X (fun u9 h9 => cp_X1_leastOf l E r N (a2 &&& a3) v20 t u9 h9) yy_X1_leastOf wdT_X1_leastOf wdM_RX1_177 rfl rfl (Nat.le_of_ble_eq_true rfl) dX1_move_33 ⟨by decide, by decide⟩ ⟨rfl, rfl⟩ h (fun v22 t21 h => ?_)
      refine g_iconst X dX1_move_36 ?_
      refine g_callOI (rest := []) X (fun u9 h9 => cp_X1_blame l E r N 2 v22 (-1) t21 u9 h9) yy_X1_blame yi_X1_blame wdM_RX1_173 ⟨_, _, oH_304⟩ rfl rfl rfl (Nat.le_of_ble_eq_true rfl) dX1_move_37 ⟨by decide, by decide⟩ ⟨rfl, rfl⟩ h (fun v24 t23 h => ?_)
      exact g_zret X h dX1_move_40
  · refine g_aload_n X dX1_move_6 0 rfl ?_
    refine g_iconst X dX1_move_7 ?_
    refine g_iconst X dX1_move_8 ?_
    refine g_iconst X dX1_move_9 ?_
    refine g_callOI (rest := []) X (fun u9 h9 => cp_X1_blame l E r N 1 (-1) (-1) t u9 h9) yy_X1_blame yi_X1_blame wdM_RX1_173 ⟨_, _, oH_304⟩ rfl rfl rfl (Nat.le_of_ble_eq_true rfl) dX1_move_10 ⟨by decide, by decide⟩ ⟨rfl, rfl⟩ h (fun v26 t25 h => ?_)
    exact g_zret X h dX1_move_13
set_option maxHeartbeats 4000000 in
set_option maxRecDepth 100000 in
theorem cp_X1_move (l : Launch) (E : cE) (r : Nat → Nat) (N : Nat) (o1 : Nat) (ho1 : o1 < 2) (a1 : Int) (a2 : Int64) (a3 : Int64) (t : St) (z : Int × St) (h : f_X1_move N o1 a1 a2 a3 t = some z) : cM l E yX1_move cX1_move 10 (some .boolean) rm_f_X1_move [.ref (r 304), .ref (r (305 + o1)), iv a1, .long a2, .long a3] (gW E r shH t) (gqI E (gW E r shH) z) := by
  refine g_of (w := gW E r shH) (by decide) (Nat.le_of_ble_eq_true rfl) ?_
  intro p e s m below meth c A X
  exact g_sub (lv' := [(0, .ref (r 304)), (1, .ref (r (305 + o1))), (2, iv a1), (3, .long a2), (5, .long a3)]) [0, 1, 2, 3, 4] rfl (b_f_X1_move ho1 X h)
theorem yy_X1_move : cY yX1_move cX1_move 10 (some .boolean) 4 := ⟨wdK_X1_move, wdZ_RX1, by decide +kernel⟩
theorem yi_X1_move : cYi yX1_move := ⟨wdN_X1_move, wdS_X1_move⟩
