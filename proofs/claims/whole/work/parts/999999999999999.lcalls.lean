/-! the law: one row for each call -/
theorem gO_H300 : gO shH 300 11 := ⟨0, _, rfl⟩
theorem gO_M200 : gO shM 200 12 := ⟨0, _, rfl⟩
set_option maxHeartbeats 1000000 in
theorem lc_feed {p : Program} {l : Launch} {e : Env} {s : State} {m : MethodId} {below : List Frame} {meth : Method} {c : Code} {Q : State → Prop} {E : cE} {A : Nat → Prop} {ws : va_W} {ce sl b L i cn xo mo : Nat} {xs : Nat → Int32} (X : gX p s m meth c cL_law 4 ret yL_law #[Value.ref b] E A) (hX : va_X b L xs s s.heap) (hbl : b < s.heap.size) (hbA : ¬ A b) (hL : L ≤ 3072) (hi : i + 6 ≤ L) (hc : cn ≤ 600) (hr : ce + 4 ≤ 600000 ∧ sl + 1576 ≤ 7302250) (hW : LWw cn E xo mo ws) (kk : ∀ w2 : va_W, LWw (cn + 1) E xo mo w2 → kP (ce + 4) (sl + 1576) p l e room_1 s m #[Value.ref b] below meth c E A 4 Q w2 715 (lwL b xo mo i) []) : kP ce sl p l e room_1 s m #[Value.ref b] below meth c E A 4 Q ws 144 (lwL b xo mo i) [] := by
  obtain ⟨n, t, v, μ, B, len, r, q, rfl, ⟨rfl, rfl⟩, h1, h2, h57, h51⟩ := hW
  obtain ⟨x, u, w, e1, e2, h3, h4⟩ := q_feed (N := 100000) (inR_t _) (inR_t _) (inR_t _) (inR_t _) (inR_t _) (by omega) h1
  refine k_aload_n X dL_law_144 1 rfl ?_
  refine k_arg X hX hbl hbA (j := 1) (by omega) hL (by decide) dL_law_145 dL_law_146 dL_law_147 dL_law_148 dL_law_149 ?_
  refine k_arg X hX hbl hbA (j := 2) (by omega) hL (by decide) dL_law_150 dL_law_151 dL_law_152 dL_law_153 dL_law_154 ?_
  refine k_arg X hX hbl hbA (j := 3) (by omega) hL (by decide) dL_law_155 dL_law_156 dL_law_157 dL_law_158 dL_law_159 ?_
  refine k_arg X hX hbl hbA (j := 4) (by omega) hL (by decide) dL_law_160 dL_law_161 dL_law_162 dL_law_163 dL_law_164 ?_
  refine k_arg X hX hbl hbA (j := 5) (by omega) hL (by decide) dL_law_165 dL_law_166 dL_law_167 dL_law_168 dL_law_169 ?_
  rw [List.append_assoc]
  refine k_tI X (cp_X11_feed l E r 100000 ((xs (i + 1)).toInt) ((xs (i + 2)).toInt) ((xs (i + 3)).toInt) ((xs (i + 4)).toInt) ((xs (i + 5)).toInt) t _ e1) yy_X11_feed yi_X11_feed wdM_RL_13 (gO_H300) rfl rfl rfl (by decide) dL_law_170 ⟨by decide, by decide⟩ ⟨rfl, rfl⟩ ⟨by show ce ≤ 600000; omega, by show sl ≤ 7302250; omega⟩ ?_
  rw [← List.append_assoc]
  refine k_perm List.perm_append_comm ?_
  refine k_aload_n X dL_law_173 2 rfl ?_
  refine k_arg X hX hbl hbA (j := 1) (by omega) hL (by decide) dL_law_174 dL_law_175 dL_law_176 dL_law_177 dL_law_178 ?_
  refine k_arg X hX hbl hbA (j := 2) (by omega) hL (by decide) dL_law_179 dL_law_180 dL_law_181 dL_law_182 dL_law_183 ?_
  refine k_arg X hX hbl hbA (j := 3) (by omega) hL (by decide) dL_law_184 dL_law_185 dL_law_186 dL_law_187 dL_law_188 ?_
  refine k_arg X hX hbl hbA (j := 4) (by omega) hL (by decide) dL_law_189 dL_law_190 dL_law_191 dL_law_192 dL_law_193 ?_
  refine k_arg X hX hbl hbA (j := 5) (by omega) hL (by decide) dL_law_194 dL_law_195 dL_law_196 dL_law_197 dL_law_198 ?_
  refine k_tI X (cp_X12_feed l E q 100000 ((xs (i + 1)).toInt) ((xs (i + 2)).toInt) ((xs (i + 3)).toInt) ((xs (i + 4)).toInt) ((xs (i + 5)).toInt) v _ e2) yy_X12_feed yi_X12_feed wdM_RL_17 (gO_M200) rfl rfl rfl (Nat.le_of_ble_eq_true rfl) dL_law_199 ⟨by decide, by decide⟩ ⟨rfl, rfl⟩ ⟨by show ce ≤ 600000; omega, by show sl ≤ 7302250; omega⟩ ?_
  refine k_perm List.perm_append_comm ?_
  refine k_eqI X (tgt := 715) dL_law_202 (by decide) ?_
  exact k_wide (by show ce ≤ ce + 4; omega) (by show sl ≤ sl + 1576; omega) (kk _ (LWw.of ⟨rfl, rfl⟩ h3.up (h2.mv h4 (by omega))))
set_option maxHeartbeats 1000000 in
theorem lc_end {p : Program} {l : Launch} {e : Env} {s : State} {m : MethodId} {below : List Frame} {meth : Method} {c : Code} {Q : State → Prop} {E : cE} {A : Nat → Prop} {ws : va_W} {ce sl b L i cn xo mo : Nat} {xs : Nat → Int32} (X : gX p s m meth c cL_law 4 ret yL_law #[Value.ref b] E A) (hX : va_X b L xs s s.heap) (hbl : b < s.heap.size) (hbA : ¬ A b) (hL : L ≤ 3072) (hi : i + 6 ≤ L) (hc : cn ≤ 600) (hr : ce + 4 ≤ 600000 ∧ sl + 1576 ≤ 7302250) (hW : LWw cn E xo mo ws) (kk : ∀ w2 : va_W, LWw (cn + 1) E xo mo w2 → kP (ce + 4) (sl + 1576) p l e room_1 s m #[Value.ref b] below meth c E A 4 Q w2 715 (lwL b xo mo i) []) : kP ce sl p l e room_1 s m #[Value.ref b] below meth c E A 4 Q ws 207 (lwL b xo mo i) [] := by
  obtain ⟨n, t, v, μ, B, len, r, q, rfl, ⟨rfl, rfl⟩, h1, h2, h57, h51⟩ := hW
  obtain ⟨x, u, w, e1, e2, h3, h4⟩ := q_end (N := 100000) (inR_t _) h1
  refine k_aload_n X dL_law_207 1 rfl ?_
  refine k_arg X hX hbl hbA (j := 1) (by omega) hL (by decide) dL_law_208 dL_law_209 dL_law_210 dL_law_211 dL_law_212 ?_
  rw [List.append_assoc]
  refine k_tI X (cp_X11_end l E r 100000 ((xs (i + 1)).toInt) t _ e1) yy_X11_end yi_X11_end wdM_RL_18 (gO_H300) rfl rfl rfl (by decide) dL_law_213 ⟨by decide, by decide⟩ ⟨rfl, rfl⟩ ⟨by show ce ≤ 600000; omega, by show sl ≤ 7302250; omega⟩ ?_
  rw [← List.append_assoc]
  refine k_perm List.perm_append_comm ?_
  refine k_aload_n X dL_law_216 2 rfl ?_
  refine k_arg X hX hbl hbA (j := 1) (by omega) hL (by decide) dL_law_217 dL_law_218 dL_law_219 dL_law_220 dL_law_221 ?_
  refine k_tI X (cp_X12_end l E q 100000 ((xs (i + 1)).toInt) v _ e2) yy_X12_end yi_X12_end wdM_RL_22 (gO_M200) rfl rfl rfl (Nat.le_of_ble_eq_true rfl) dL_law_222 ⟨by decide, by decide⟩ ⟨rfl, rfl⟩ ⟨by show ce ≤ 600000; omega, by show sl ≤ 7302250; omega⟩ ?_
  refine k_perm List.perm_append_comm ?_
  refine k_eqI X (tgt := 715) dL_law_225 (by decide) ?_
  exact k_wide (by show ce ≤ ce + 4; omega) (by show sl ≤ sl + 1576; omega) (kk _ (LWw.of ⟨rfl, rfl⟩ h3.up (h2.mv h4 (by omega))))
set_option maxHeartbeats 1000000 in
theorem lc_load {p : Program} {l : Launch} {e : Env} {s : State} {m : MethodId} {below : List Frame} {meth : Method} {c : Code} {Q : State → Prop} {E : cE} {A : Nat → Prop} {ws : va_W} {ce sl b L i cn xo mo : Nat} {xs : Nat → Int32} (X : gX p s m meth c cL_law 4 ret yL_law #[Value.ref b] E A) (hX : va_X b L xs s s.heap) (hbl : b < s.heap.size) (hbA : ¬ A b) (hL : L ≤ 3072) (hi : i + 6 ≤ L) (hc : cn ≤ 600) (hr : ce + 4 ≤ 600000 ∧ sl + 1576 ≤ 7302250) (hW : LWw cn E xo mo ws) (kk : ∀ w2 : va_W, LWw (cn + 1) E xo mo w2 → kP (ce + 4) (sl + 1576) p l e room_1 s m #[Value.ref b] below meth c E A 4 Q w2 715 (lwL b xo mo i) []) : kP ce sl p l e room_1 s m #[Value.ref b] below meth c E A 4 Q ws 230 (lwL b xo mo i) [] := by
  obtain ⟨n, t, v, μ, B, len, r, q, rfl, ⟨rfl, rfl⟩, h1, h2, h57, h51⟩ := hW
  obtain ⟨x, u, w, e1, e2, h3, h4⟩ := q_load (N := 100000) (by omega) h1
  refine k_aload_n X dL_law_230 1 rfl ?_
  rw [List.append_assoc]
  refine k_tI X (cp_X11_load l E r 100000 t _ e1) yy_X11_load yi_X11_load wdM_RL_23 (gO_H300) rfl rfl rfl (by decide) dL_law_231 ⟨by decide, by decide⟩ ⟨rfl, rfl⟩ ⟨by show ce ≤ 600000; omega, by show sl ≤ 7302250; omega⟩ ?_
  rw [← List.append_assoc]
  refine k_perm List.perm_append_comm ?_
  refine k_aload_n X dL_law_234 2 rfl ?_
  refine k_tI X (cp_X12_load l E q 100000 v _ e2) yy_X12_load yi_X12_load wdM_RL_27 (gO_M200) rfl rfl rfl (Nat.le_of_ble_eq_true rfl) dL_law_235 ⟨by decide, by decide⟩ ⟨rfl, rfl⟩ ⟨by show ce ≤ 600000; omega, by show sl ≤ 7302250; omega⟩ ?_
  refine k_perm List.perm_append_comm ?_
  refine k_eqI X (tgt := 715) dL_law_238 (by decide) ?_
  exact k_wide (by show ce ≤ ce + 4; omega) (by show sl ≤ sl + 1576; omega) (kk _ (LWw.of ⟨rfl, rfl⟩ h3.up (h2.mv h4 (by omega))))
set_option maxHeartbeats 1000000 in
theorem lc_fault {p : Program} {l : Launch} {e : Env} {s : State} {m : MethodId} {below : List Frame} {meth : Method} {c : Code} {Q : State → Prop} {E : cE} {A : Nat → Prop} {ws : va_W} {ce sl b L i cn xo mo : Nat} {xs : Nat → Int32} (X : gX p s m meth c cL_law 4 ret yL_law #[Value.ref b] E A) (hX : va_X b L xs s s.heap) (hbl : b < s.heap.size) (hbA : ¬ A b) (hL : L ≤ 3072) (hi : i + 6 ≤ L) (hc : cn ≤ 600) (hr : ce + 4 ≤ 600000 ∧ sl + 1576 ≤ 7302250) (hW : LWw cn E xo mo ws) (kk : ∀ w2 : va_W, LWw (cn + 1) E xo mo w2 → kP (ce + 4) (sl + 1576) p l e room_1 s m #[Value.ref b] below meth c E A 4 Q w2 715 (lwL b xo mo i) []) : kP ce sl p l e room_1 s m #[Value.ref b] below meth c E A 4 Q ws 256 (lwL b xo mo i) [] := by
  obtain ⟨n, t, v, μ, B, len, r, q, rfl, ⟨rfl, rfl⟩, h1, h2, h57, h51⟩ := hW
  obtain ⟨x, e1, e2⟩ := q_fault (N := 100000) h1
  refine k_aload_n X dL_law_256 1 rfl ?_
  rw [List.append_assoc]
  refine k_tI X (cp_X11_fault l E r 100000 t _ e1) yy_X11_fault yi_X11_fault wdM_RL_32 (gO_H300) rfl rfl rfl (by decide) dL_law_257 ⟨by decide, by decide⟩ ⟨rfl, rfl⟩ ⟨by show ce ≤ 600000; omega, by show sl ≤ 7302250; omega⟩ ?_
  rw [← List.append_assoc]
  refine k_perm List.perm_append_comm ?_
  refine k_aload_n X dL_law_260 2 rfl ?_
  refine k_tI X (cp_X12_fault l E q 100000 v _ e2) yy_X12_fault yi_X12_fault wdM_RL_35 (gO_M200) rfl rfl rfl (Nat.le_of_ble_eq_true rfl) dL_law_261 ⟨by decide, by decide⟩ ⟨rfl, rfl⟩ ⟨by show ce ≤ 600000; omega, by show sl ≤ 7302250; omega⟩ ?_
  refine k_perm List.perm_append_comm ?_
  refine k_eqI X (tgt := 715) dL_law_264 (by decide) ?_
  exact k_wide (by show ce ≤ ce + 4; omega) (by show sl ≤ sl + 1576; omega) (kk _ (LWw.of ⟨rfl, rfl⟩ h1.up (h2.mv HKf.rf (by omega))))
set_option maxHeartbeats 1000000 in
theorem lc_named {p : Program} {l : Launch} {e : Env} {s : State} {m : MethodId} {below : List Frame} {meth : Method} {c : Code} {Q : State → Prop} {E : cE} {A : Nat → Prop} {ws : va_W} {ce sl b L i cn xo mo : Nat} {xs : Nat → Int32} (X : gX p s m meth c cL_law 4 ret yL_law #[Value.ref b] E A) (hX : va_X b L xs s s.heap) (hbl : b < s.heap.size) (hbA : ¬ A b) (hL : L ≤ 3072) (hi : i + 6 ≤ L) (hc : cn ≤ 600) (hr : ce + 4 ≤ 600000 ∧ sl + 1576 ≤ 7302250) (hW : LWw cn E xo mo ws) (kk : ∀ w2 : va_W, LWw (cn + 1) E xo mo w2 → kP (ce + 4) (sl + 1576) p l e room_1 s m #[Value.ref b] below meth c E A 4 Q w2 715 (lwL b xo mo i) []) : kP ce sl p l e room_1 s m #[Value.ref b] below meth c E A 4 Q ws 269 (lwL b xo mo i) [] := by
  obtain ⟨n, t, v, μ, B, len, r, q, rfl, ⟨rfl, rfl⟩, h1, h2, h57, h51⟩ := hW
  obtain ⟨x, u, w, e1, e2, h3, h4⟩ := q_named (N := 100000) (inR_t _) (by omega) h1
  refine k_aload_n X dL_law_269 1 rfl ?_
  refine k_arg X hX hbl hbA (j := 1) (by omega) hL (by decide) dL_law_270 dL_law_271 dL_law_272 dL_law_273 dL_law_274 ?_
  rw [List.append_assoc]
  refine k_tI X (cp_X11_named l E r 100000 ((xs (i + 1)).toInt) t _ e1) yy_X11_named yi_X11_named wdM_RL_36 (gO_H300) rfl rfl rfl (by decide) dL_law_275 ⟨by decide, by decide⟩ ⟨rfl, rfl⟩ ⟨by show ce ≤ 600000; omega, by show sl ≤ 7302250; omega⟩ ?_
  rw [← List.append_assoc]
  refine k_perm List.perm_append_comm ?_
  refine k_aload_n X dL_law_278 2 rfl ?_
  refine k_arg X hX hbl hbA (j := 1) (by omega) hL (by decide) dL_law_279 dL_law_280 dL_law_281 dL_law_282 dL_law_283 ?_
  refine k_tI X (cp_X12_named l E q 100000 ((xs (i + 1)).toInt) v _ e2) yy_X12_named yi_X12_named wdM_RL_40 (gO_M200) rfl rfl rfl (Nat.le_of_ble_eq_true rfl) dL_law_284 ⟨by decide, by decide⟩ ⟨rfl, rfl⟩ ⟨by show ce ≤ 600000; omega, by show sl ≤ 7302250; omega⟩ ?_
  refine k_perm List.perm_append_comm ?_
  refine k_eqI X (tgt := 715) dL_law_287 (by decide) ?_
  exact k_wide (by show ce ≤ ce + 4; omega) (by show sl ≤ sl + 1576; omega) (kk _ (LWw.of ⟨rfl, rfl⟩ h3.up (h2.mv h4 (by omega))))
set_option maxHeartbeats 1000000 in
theorem lc_set {p : Program} {l : Launch} {e : Env} {s : State} {m : MethodId} {below : List Frame} {meth : Method} {c : Code} {Q : State → Prop} {E : cE} {A : Nat → Prop} {ws : va_W} {ce sl b L i cn xo mo : Nat} {xs : Nat → Int32} (X : gX p s m meth c cL_law 4 ret yL_law #[Value.ref b] E A) (hX : va_X b L xs s s.heap) (hbl : b < s.heap.size) (hbA : ¬ A b) (hL : L ≤ 3072) (hi : i + 6 ≤ L) (hc : cn ≤ 600) (hr : ce + 4 ≤ 600000 ∧ sl + 1576 ≤ 7302250) (hW : LWw cn E xo mo ws) (kk : ∀ w2 : va_W, LWw (cn + 1) E xo mo w2 → kP (ce + 4) (sl + 1576) p l e room_1 s m #[Value.ref b] below meth c E A 4 Q w2 715 (lwL b xo mo i) []) : kP ce sl p l e room_1 s m #[Value.ref b] below meth c E A 4 Q ws 292 (lwL b xo mo i) [] := by
  obtain ⟨n, t, v, μ, B, len, r, q, rfl, ⟨rfl, rfl⟩, h1, h2, h57, h51⟩ := hW
  obtain ⟨x, u, w, n2, e1, e2, h3, h4⟩ := q_set (N := 100000) (inR_t _) (inR_t _) (by omega) hc h1
  have h5 : HISr n2 (cn + 1) u w μ B len := by
    rcases h4 with ⟨rfl, rfl, rfl⟩ | ⟨z1, z2, z3, z4⟩
    · exact h2.mv HKf.rf (by omega)
    · exact h2.cl ⟨z1, z2⟩ ⟨z3, z4⟩
  refine k_aload_n X dL_law_292 1 rfl ?_
  refine k_arg X hX hbl hbA (j := 1) (by omega) hL (by decide) dL_law_293 dL_law_294 dL_law_295 dL_law_296 dL_law_297 ?_
  refine k_arg X hX hbl hbA (j := 2) (by omega) hL (by decide) dL_law_298 dL_law_299 dL_law_300 dL_law_301 dL_law_302 ?_
  rw [List.append_assoc]
  refine k_tI X (cp_X11_set l E r 100000 ((xs (i + 1)).toInt) ((xs (i + 2)).toInt) t _ e1) yy_X11_set yi_X11_set wdM_RL_41 (gO_H300) rfl rfl rfl (by decide) dL_law_303 ⟨by decide, by decide⟩ ⟨rfl, rfl⟩ ⟨by show ce ≤ 600000; omega, by show sl ≤ 7302250; omega⟩ ?_
  rw [← List.append_assoc]
  refine k_perm List.perm_append_comm ?_
  refine k_aload_n X dL_law_306 2 rfl ?_
  refine k_arg X hX hbl hbA (j := 1) (by omega) hL (by decide) dL_law_307 dL_law_308 dL_law_309 dL_law_310 dL_law_311 ?_
  refine k_arg X hX hbl hbA (j := 2) (by omega) hL (by decide) dL_law_312 dL_law_313 dL_law_314 dL_law_315 dL_law_316 ?_
  refine k_tI X (cp_X12_set l E q 100000 ((xs (i + 1)).toInt) ((xs (i + 2)).toInt) v _ e2) yy_X12_set yi_X12_set wdM_RL_45 (gO_M200) rfl rfl rfl (Nat.le_of_ble_eq_true rfl) dL_law_317 ⟨by decide, by decide⟩ ⟨rfl, rfl⟩ ⟨by show ce ≤ 600000; omega, by show sl ≤ 7302250; omega⟩ ?_
  refine k_perm List.perm_append_comm ?_
  refine k_eqI X (tgt := 715) dL_law_320 (by decide) ?_
  exact k_wide (by show ce ≤ ce + 4; omega) (by show sl ≤ sl + 1576; omega) (kk _ (LWw.of ⟨rfl, rfl⟩ h3 h5))
set_option maxHeartbeats 1000000 in
theorem lc_mark {p : Program} {l : Launch} {e : Env} {s : State} {m : MethodId} {below : List Frame} {meth : Method} {c : Code} {Q : State → Prop} {E : cE} {A : Nat → Prop} {ws : va_W} {ce sl b L i cn xo mo : Nat} {xs : Nat → Int32} (X : gX p s m meth c cL_law 4 ret yL_law #[Value.ref b] E A) (hX : va_X b L xs s s.heap) (hbl : b < s.heap.size) (hbA : ¬ A b) (hL : L ≤ 3072) (hi : i + 6 ≤ L) (hc : cn ≤ 600) (hr : ce + 4 ≤ 600000 ∧ sl + 1576 ≤ 7302250) (hW : LWw cn E xo mo ws) (kk : ∀ w2 : va_W, LWw (cn + 1) E xo mo w2 → kP (ce + 4) (sl + 1576) p l e room_1 s m #[Value.ref b] below meth c E A 4 Q w2 715 (lwL b xo mo i) []) : kP ce sl p l e room_1 s m #[Value.ref b] below meth c E A 4 Q ws 325 (lwL b xo mo i) [] := by
  obtain ⟨n, t, v, μ, B, len, r, q, rfl, ⟨rfl, rfl⟩, h1, h2, h57, h51⟩ := hW
  obtain ⟨u, w, e1, e2, h3, h4⟩ := q_mark (N := 100000) (by omega) h1
  refine k_aload_n X dL_law_325 1 rfl ?_
  rw [List.append_assoc]
  refine k_tV X (cp_X11_mark l E r 100000 t _ e1) yy_X11_mark yi_X11_mark wdM_RL_46 (gO_H300) rfl rfl rfl (by decide) dL_law_326 ⟨by decide, by decide⟩ ⟨rfl, rfl⟩ ⟨by show ce ≤ 600000; omega, by show sl ≤ 7302250; omega⟩ ?_
  rw [← List.append_assoc]
  refine k_perm List.perm_append_comm ?_
  refine k_aload_n X dL_law_329 2 rfl ?_
  refine k_tV X (cp_X12_mark l E q 100000 v _ e2) yy_X12_mark yi_X12_mark wdM_RL_49 (gO_M200) rfl rfl rfl (Nat.le_of_ble_eq_true rfl) dL_law_330 ⟨by decide, by decide⟩ ⟨rfl, rfl⟩ ⟨by show ce ≤ 600000; omega, by show sl ≤ 7302250; omega⟩ ?_
  refine k_perm List.perm_append_comm ?_
  refine k_goto X (tgt := 715) dL_law_333 (by decide) ?_
  exact k_wide (by show ce ≤ ce + 4; omega) (by show sl ≤ sl + 1576; omega) (kk _ (LWw.of ⟨rfl, rfl⟩ h3.up (h2.mv h4 (by omega))))
set_option maxHeartbeats 1000000 in
theorem lc_begin {p : Program} {l : Launch} {e : Env} {s : State} {m : MethodId} {below : List Frame} {meth : Method} {c : Code} {Q : State → Prop} {E : cE} {A : Nat → Prop} {ws : va_W} {ce sl b L i cn xo mo : Nat} {xs : Nat → Int32} (X : gX p s m meth c cL_law 4 ret yL_law #[Value.ref b] E A) (hX : va_X b L xs s s.heap) (hbl : b < s.heap.size) (hbA : ¬ A b) (hL : L ≤ 3072) (hi : i + 6 ≤ L) (hc : cn ≤ 600) (hr : ce + 4 ≤ 600000 ∧ sl + 1576 ≤ 7302250) (hW : LWw cn E xo mo ws) (kk : ∀ w2 : va_W, LWw (cn + 1) E xo mo w2 → kP (ce + 4) (sl + 1576) p l e room_1 s m #[Value.ref b] below meth c E A 4 Q w2 715 (lwL b xo mo i) []) : kP ce sl p l e room_1 s m #[Value.ref b] below meth c E A 4 Q ws 336 (lwL b xo mo i) [] := by
  obtain ⟨n, t, v, μ, B, len, r, q, rfl, ⟨rfl, rfl⟩, h1, h2, h57, h51⟩ := hW
  obtain ⟨x, u, w, e1, e2, h3, h4⟩ := q_begin (N := 100000) (inR_t _) h1
  refine k_aload_n X dL_law_336 1 rfl ?_
  refine k_arg X hX hbl hbA (j := 1) (by omega) hL (by decide) dL_law_337 dL_law_338 dL_law_339 dL_law_340 dL_law_341 ?_
  rw [List.append_assoc]
  refine k_tI X (cp_X11_begin l E r 100000 ((xs (i + 1)).toInt) t _ e1) yy_X11_begin yi_X11_begin wdM_RL_50 (gO_H300) rfl rfl rfl (by decide) dL_law_342 ⟨by decide, by decide⟩ ⟨rfl, rfl⟩ ⟨by show ce ≤ 600000; omega, by show sl ≤ 7302250; omega⟩ ?_
  rw [← List.append_assoc]
  refine k_perm List.perm_append_comm ?_
  refine k_aload_n X dL_law_345 2 rfl ?_
  refine k_arg X hX hbl hbA (j := 1) (by omega) hL (by decide) dL_law_346 dL_law_347 dL_law_348 dL_law_349 dL_law_350 ?_
  refine k_tI X (cp_X12_begin l E q 100000 ((xs (i + 1)).toInt) v _ e2) yy_X12_begin yi_X12_begin wdM_RL_53 (gO_M200) rfl rfl rfl (Nat.le_of_ble_eq_true rfl) dL_law_351 ⟨by decide, by decide⟩ ⟨rfl, rfl⟩ ⟨by show ce ≤ 600000; omega, by show sl ≤ 7302250; omega⟩ ?_
  refine k_perm List.perm_append_comm ?_
  refine k_eqI X (tgt := 715) dL_law_354 (by decide) ?_
  exact k_wide (by show ce ≤ ce + 4; omega) (by show sl ≤ sl + 1576; omega) (kk _ (LWw.of ⟨rfl, rfl⟩ h3.up (h2.mv h4 (by omega))))
set_option maxHeartbeats 1000000 in
theorem lc_step {p : Program} {l : Launch} {e : Env} {s : State} {m : MethodId} {below : List Frame} {meth : Method} {c : Code} {Q : State → Prop} {E : cE} {A : Nat → Prop} {ws : va_W} {ce sl b L i cn xo mo : Nat} {xs : Nat → Int32} (X : gX p s m meth c cL_law 4 ret yL_law #[Value.ref b] E A) (hX : va_X b L xs s s.heap) (hbl : b < s.heap.size) (hbA : ¬ A b) (hL : L ≤ 3072) (hi : i + 6 ≤ L) (hc : cn ≤ 600) (hr : ce + 4 ≤ 600000 ∧ sl + 1576 ≤ 7302250) (hW : LWw cn E xo mo ws) (kk : ∀ w2 : va_W, LWw (cn + 1) E xo mo w2 → kP (ce + 4) (sl + 1576) p l e room_1 s m #[Value.ref b] below meth c E A 4 Q w2 715 (lwL b xo mo i) []) : kP ce sl p l e room_1 s m #[Value.ref b] below meth c E A 4 Q ws 359 (lwL b xo mo i) [] := by
  obtain ⟨n, t, v, μ, B, len, r, q, rfl, ⟨rfl, rfl⟩, h1, h2, h57, h51⟩ := hW
  obtain ⟨x, w, e2, hM⟩ := q_step (N := 100000) (by omega) hc h1 h2 h57 h51
  refine k_aload_n X dL_law_359 1 rfl ?_
  obtain ⟨S, post, w9, hM1, hM2⟩ := hM l E r
  refine k_callI X hM1 yy_X11_step yi_X11_step wdM_RL_54 0 11 (show ((gW E r shH t ++ exL E r B len μ) ++ gW E q shM v)[0]? = some _ from rfl) rfl rfl rfl (by decide) dL_law_360 ⟨by decide, by decide⟩ ⟨hr.1, hr.2⟩ (fun r9 u9 h9 => ?_)
  obtain ⟨h91, r2, t2, μ2, B2, len2, h92, h93, h94, h95⟩ := hM2 r9 u9 h9
  subst h91
  rw [h92]
  refine k_perm List.perm_append_comm ?_
  refine k_aload_n X dL_law_363 2 rfl ?_
  refine k_tI X (cp_X12_step l E q 100000 v _ e2) yy_X12_step yi_X12_step wdM_RL_57 (gO_M200) rfl rfl rfl (Nat.le_of_ble_eq_true rfl) dL_law_364 ⟨by decide, by decide⟩ ⟨rfl, rfl⟩ ⟨by show ce + 4 ≤ 600000; omega, by show sl + 1576 ≤ 7302250; omega⟩ ?_
  refine k_perm List.perm_append_comm ?_
  refine k_eqI X (tgt := 715) dL_law_367 (by decide) ?_
  exact k_wide (by show ce + 4 ≤ ce + 4; omega) (by show sl + 1576 ≤ sl + 1576; omega) (kk _ (LWw.of ⟨h93 300 (by omega), rfl⟩ h94 h95))
set_option maxHeartbeats 1000000 in
theorem lc_back {p : Program} {l : Launch} {e : Env} {s : State} {m : MethodId} {below : List Frame} {meth : Method} {c : Code} {Q : State → Prop} {E : cE} {A : Nat → Prop} {ws : va_W} {ce sl b L i cn xo mo : Nat} {xs : Nat → Int32} (X : gX p s m meth c cL_law 4 ret yL_law #[Value.ref b] E A) (hX : va_X b L xs s s.heap) (hbl : b < s.heap.size) (hbA : ¬ A b) (hL : L ≤ 3072) (hi : i + 6 ≤ L) (hc : cn ≤ 600) (hr : ce + 4 ≤ 600000 ∧ sl + 1576 ≤ 7302250) (hW : LWw cn E xo mo ws) (kk : ∀ w2 : va_W, LWw (cn + 1) E xo mo w2 → kP (ce + 4) (sl + 1576) p l e room_1 s m #[Value.ref b] below meth c E A 4 Q w2 715 (lwL b xo mo i) []) : kP ce sl p l e room_1 s m #[Value.ref b] below meth c E A 4 Q ws 372 (lwL b xo mo i) [] := by
  obtain ⟨n, t, v, μ, B, len, r, q, rfl, ⟨rfl, rfl⟩, h1, h2, h57, h51⟩ := hW
  obtain ⟨x, u, w, e2, h3, h4, hM⟩ := q_back (N := 100000) (inR_t _) (by omega) hc h1 h2
  refine k_aload_n X dL_law_372 1 rfl ?_
  refine k_arg X hX hbl hbA (j := 1) (by omega) hL (by decide) dL_law_373 dL_law_374 dL_law_375 dL_law_376 dL_law_377 ?_
  refine k_callI X (hM l E r) yy_X11_back yi_X11_back wdM_RL_58 0 11 (show ((gW E r shH t ++ exL E r B len μ) ++ gW E q shM v)[0]? = some _ from rfl) rfl rfl rfl (by decide) dL_law_378 ⟨by decide, by decide⟩ ⟨by have := hr.1; show ce + 0 ≤ 600000; omega, by have := hr.2; show sl + 0 ≤ 7302250; omega⟩ (fun r9 u9 h9 => ?_)
  have h9 : r9 = Int32.ofInt x := h9
  subst h9
  refine k_perm List.perm_append_comm ?_
  refine k_aload_n X dL_law_381 2 rfl ?_
  refine k_arg X hX hbl hbA (j := 1) (by omega) hL (by decide) dL_law_382 dL_law_383 dL_law_384 dL_law_385 dL_law_386 ?_
  refine k_tI X (cp_X12_back l E q 100000 ((xs (i + 1)).toInt) v _ e2) yy_X12_back yi_X12_back wdM_RL_61 (gO_M200) rfl rfl rfl (Nat.le_of_ble_eq_true rfl) dL_law_387 ⟨by decide, by decide⟩ ⟨rfl, rfl⟩ ⟨by show ce + 0 ≤ 600000; omega, by show sl + 0 ≤ 7302250; omega⟩ ?_
  refine k_perm List.perm_append_comm ?_
  refine k_eqI X (tgt := 715) dL_law_390 (by decide) ?_
  exact k_wide (by show ce + 0 ≤ ce + 4; omega) (by show sl + 0 ≤ sl + 1576; omega) (kk _ (LWw.of ⟨rfl, rfl⟩ h3 h4))
set_option maxHeartbeats 1000000 in
theorem lc_failed {p : Program} {l : Launch} {e : Env} {s : State} {m : MethodId} {below : List Frame} {meth : Method} {c : Code} {Q : State → Prop} {E : cE} {A : Nat → Prop} {ws : va_W} {ce sl b L i cn xo mo : Nat} {xs : Nat → Int32} (X : gX p s m meth c cL_law 4 ret yL_law #[Value.ref b] E A) (hX : va_X b L xs s s.heap) (hbl : b < s.heap.size) (hbA : ¬ A b) (hL : L ≤ 3072) (hi : i + 6 ≤ L) (hc : cn ≤ 600) (hr : ce + 4 ≤ 600000 ∧ sl + 1576 ≤ 7302250) (hW : LWw cn E xo mo ws) (kk : ∀ w2 : va_W, LWw (cn + 1) E xo mo w2 → kP (ce + 4) (sl + 1576) p l e room_1 s m #[Value.ref b] below meth c E A 4 Q w2 715 (lwL b xo mo i) []) : kP ce sl p l e room_1 s m #[Value.ref b] below meth c E A 4 Q ws 395 (lwL b xo mo i) [] := by
  obtain ⟨n, t, v, μ, B, len, r, q, rfl, ⟨rfl, rfl⟩, h1, h2, h57, h51⟩ := hW
  obtain ⟨x, e1, e2⟩ := q_failed (N := 100000) (inR_t _) h1
  refine k_aload_n X dL_law_395 1 rfl ?_
  refine k_arg X hX hbl hbA (j := 1) (by omega) hL (by decide) dL_law_396 dL_law_397 dL_law_398 dL_law_399 dL_law_400 ?_
  rw [List.append_assoc]
  refine k_tI X (cp_X11_failed l E r 100000 ((xs (i + 1)).toInt) t _ e1) yy_X11_failed yi_X11_failed wdM_RL_62 (gO_H300) rfl rfl rfl (by decide) dL_law_401 ⟨by decide, by decide⟩ ⟨rfl, rfl⟩ ⟨by show ce ≤ 600000; omega, by show sl ≤ 7302250; omega⟩ ?_
  rw [← List.append_assoc]
  refine k_perm List.perm_append_comm ?_
  refine k_aload_n X dL_law_404 2 rfl ?_
  refine k_arg X hX hbl hbA (j := 1) (by omega) hL (by decide) dL_law_405 dL_law_406 dL_law_407 dL_law_408 dL_law_409 ?_
  refine k_tI X (cp_X12_failed l E q 100000 ((xs (i + 1)).toInt) v _ e2) yy_X12_failed yi_X12_failed wdM_RL_65 (gO_M200) rfl rfl rfl (Nat.le_of_ble_eq_true rfl) dL_law_410 ⟨by decide, by decide⟩ ⟨rfl, rfl⟩ ⟨by show ce ≤ 600000; omega, by show sl ≤ 7302250; omega⟩ ?_
  refine k_perm List.perm_append_comm ?_
  refine k_eqI X (tgt := 715) dL_law_413 (by decide) ?_
  exact k_wide (by show ce ≤ ce + 4; omega) (by show sl ≤ sl + 1576; omega) (kk _ (LWw.of ⟨rfl, rfl⟩ h1.up (h2.mv HKf.rf (by omega))))
set_option maxHeartbeats 1000000 in
theorem lc_may {p : Program} {l : Launch} {e : Env} {s : State} {m : MethodId} {below : List Frame} {meth : Method} {c : Code} {Q : State → Prop} {E : cE} {A : Nat → Prop} {ws : va_W} {ce sl b L i cn xo mo : Nat} {xs : Nat → Int32} (X : gX p s m meth c cL_law 4 ret yL_law #[Value.ref b] E A) (hX : va_X b L xs s s.heap) (hbl : b < s.heap.size) (hbA : ¬ A b) (hL : L ≤ 3072) (hi : i + 6 ≤ L) (hc : cn ≤ 600) (hr : ce + 4 ≤ 600000 ∧ sl + 1576 ≤ 7302250) (hW : LWw cn E xo mo ws) (kk : ∀ w2 : va_W, LWw (cn + 1) E xo mo w2 → kP (ce + 4) (sl + 1576) p l e room_1 s m #[Value.ref b] below meth c E A 4 Q w2 715 (lwL b xo mo i) []) : kP ce sl p l e room_1 s m #[Value.ref b] below meth c E A 4 Q ws 418 (lwL b xo mo i) [] := by
  obtain ⟨n, t, v, μ, B, len, r, q, rfl, ⟨rfl, rfl⟩, h1, h2, h57, h51⟩ := hW
  obtain ⟨x, u, w, e1, e2, h3, h4⟩ := q_may (N := 100000) (inR_t _) (by omega) hc h1
  refine k_aload_n X dL_law_418 1 rfl ?_
  refine k_arg X hX hbl hbA (j := 1) (by omega) hL (by decide) dL_law_419 dL_law_420 dL_law_421 dL_law_422 dL_law_423 ?_
  rw [List.append_assoc]
  refine k_tI X (cp_X11_may l E r 100000 ((xs (i + 1)).toInt) t _ e1) yy_X11_may yi_X11_may wdM_RL_66 (gO_H300) rfl rfl rfl (by decide) dL_law_424 ⟨by decide, by decide⟩ ⟨rfl, rfl⟩ ⟨by show ce ≤ 600000; omega, by show sl ≤ 7302250; omega⟩ ?_
  rw [← List.append_assoc]
  refine k_perm List.perm_append_comm ?_
  refine k_aload_n X dL_law_427 2 rfl ?_
  refine k_arg X hX hbl hbA (j := 1) (by omega) hL (by decide) dL_law_428 dL_law_429 dL_law_430 dL_law_431 dL_law_432 ?_
  refine k_tI X (cp_X12_may l E q 100000 ((xs (i + 1)).toInt) v _ e2) yy_X12_may yi_X12_may wdM_RL_69 (gO_M200) rfl rfl rfl (Nat.le_of_ble_eq_true rfl) dL_law_433 ⟨by decide, by decide⟩ ⟨rfl, rfl⟩ ⟨by show ce ≤ 600000; omega, by show sl ≤ 7302250; omega⟩ ?_
  refine k_perm List.perm_append_comm ?_
  refine k_eqI X (tgt := 715) dL_law_436 (by decide) ?_
  exact k_wide (by show ce ≤ ce + 4; omega) (by show sl ≤ sl + 1576; omega) (kk _ (LWw.of ⟨rfl, rfl⟩ h3 (h2.mv h4 (by omega))))
set_option maxHeartbeats 1000000 in
theorem lc_resolve {p : Program} {l : Launch} {e : Env} {s : State} {m : MethodId} {below : List Frame} {meth : Method} {c : Code} {Q : State → Prop} {E : cE} {A : Nat → Prop} {ws : va_W} {ce sl b L i cn xo mo : Nat} {xs : Nat → Int32} (X : gX p s m meth c cL_law 4 ret yL_law #[Value.ref b] E A) (hX : va_X b L xs s s.heap) (hbl : b < s.heap.size) (hbA : ¬ A b) (hL : L ≤ 3072) (hi : i + 6 ≤ L) (hc : cn ≤ 600) (hr : ce + 4 ≤ 600000 ∧ sl + 1576 ≤ 7302250) (hW : LWw cn E xo mo ws) (kk : ∀ w2 : va_W, LWw (cn + 1) E xo mo w2 → kP (ce + 4) (sl + 1576) p l e room_1 s m #[Value.ref b] below meth c E A 4 Q w2 715 (lwL b xo mo i) []) : kP ce sl p l e room_1 s m #[Value.ref b] below meth c E A 4 Q ws 441 (lwL b xo mo i) [] := by
  obtain ⟨n, t, v, μ, B, len, r, q, rfl, ⟨rfl, rfl⟩, h1, h2, h57, h51⟩ := hW
  obtain ⟨x, u, w, e1, e2, h3, h4⟩ := q_resolve (N := 100000) (inR_t _) (by omega) hc h1
  refine k_aload_n X dL_law_441 1 rfl ?_
  refine k_arg X hX hbl hbA (j := 1) (by omega) hL (by decide) dL_law_442 dL_law_443 dL_law_444 dL_law_445 dL_law_446 ?_
  rw [List.append_assoc]
  refine k_tI X (cp_X11_resolve l E r 100000 ((xs (i + 1)).toInt) t _ e1) yy_X11_resolve yi_X11_resolve wdM_RL_70 (gO_H300) rfl rfl rfl (by decide) dL_law_447 ⟨by decide, by decide⟩ ⟨rfl, rfl⟩ ⟨by show ce ≤ 600000; omega, by show sl ≤ 7302250; omega⟩ ?_
  rw [← List.append_assoc]
  refine k_perm List.perm_append_comm ?_
  refine k_aload_n X dL_law_450 2 rfl ?_
  refine k_arg X hX hbl hbA (j := 1) (by omega) hL (by decide) dL_law_451 dL_law_452 dL_law_453 dL_law_454 dL_law_455 ?_
  refine k_tI X (cp_X12_resolve l E q 100000 ((xs (i + 1)).toInt) v _ e2) yy_X12_resolve yi_X12_resolve wdM_RL_73 (gO_M200) rfl rfl rfl (Nat.le_of_ble_eq_true rfl) dL_law_456 ⟨by decide, by decide⟩ ⟨rfl, rfl⟩ ⟨by show ce ≤ 600000; omega, by show sl ≤ 7302250; omega⟩ ?_
  refine k_perm List.perm_append_comm ?_
  refine k_eqI X (tgt := 715) dL_law_459 (by decide) ?_
  exact k_wide (by show ce ≤ ce + 4; omega) (by show sl ≤ sl + 1576; omega) (kk _ (LWw.of ⟨rfl, rfl⟩ h3 (h2.mv h4 (by omega))))
set_option maxHeartbeats 1000000 in
theorem lc_rows {p : Program} {l : Launch} {e : Env} {s : State} {m : MethodId} {below : List Frame} {meth : Method} {c : Code} {Q : State → Prop} {E : cE} {A : Nat → Prop} {ws : va_W} {ce sl b L i cn xo mo : Nat} {xs : Nat → Int32} (X : gX p s m meth c cL_law 4 ret yL_law #[Value.ref b] E A) (hX : va_X b L xs s s.heap) (hbl : b < s.heap.size) (hbA : ¬ A b) (hL : L ≤ 3072) (hi : i + 6 ≤ L) (hc : cn ≤ 600) (hr : ce + 4 ≤ 600000 ∧ sl + 1576 ≤ 7302250) (hW : LWw cn E xo mo ws) (kk : ∀ w2 : va_W, LWw (cn + 1) E xo mo w2 → kP (ce + 4) (sl + 1576) p l e room_1 s m #[Value.ref b] below meth c E A 4 Q w2 715 (lwL b xo mo i) []) : kP ce sl p l e room_1 s m #[Value.ref b] below meth c E A 4 Q ws 464 (lwL b xo mo i) [] := by
  obtain ⟨n, t, v, μ, B, len, r, q, rfl, ⟨rfl, rfl⟩, h1, h2, h57, h51⟩ := hW
  obtain ⟨e1, e2⟩ := q_rows (N := 100000) h1
  refine k_aload_n X dL_law_464 1 rfl ?_
  rw [List.append_assoc]
  refine k_tL X (cp_X11_rows l E r 100000 t _ e1) yy_X11_rows yi_X11_rows wdM_RL_74 (gO_H300) rfl rfl rfl (by decide) dL_law_465 ⟨by decide, by decide⟩ ⟨rfl, rfl⟩ ⟨by show ce ≤ 600000; omega, by show sl ≤ 7302250; omega⟩ ?_
  rw [← List.append_assoc]
  refine k_perm List.perm_append_comm ?_
  refine k_aload_n X dL_law_468 2 rfl ?_
  refine k_tL X (cp_X12_rows l E q 100000 v _ e2) yy_X12_rows yi_X12_rows wdM_RL_78 (gO_M200) rfl rfl rfl (Nat.le_of_ble_eq_true rfl) dL_law_469 ⟨by decide, by decide⟩ ⟨rfl, rfl⟩ ⟨by show ce ≤ 600000; omega, by show sl ≤ 7302250; omega⟩ ?_
  refine k_perm List.perm_append_comm ?_
  refine k_eqL X (tgt := 715) dL_law_472 dL_law_473 (by decide) ?_
  exact k_wide (by show ce ≤ ce + 4; omega) (by show sl ≤ sl + 1576; omega) (kk _ (LWw.of ⟨rfl, rfl⟩ h1.up (h2.mv HKf.rf (by omega))))
set_option maxHeartbeats 1000000 in
theorem lc_row {p : Program} {l : Launch} {e : Env} {s : State} {m : MethodId} {below : List Frame} {meth : Method} {c : Code} {Q : State → Prop} {E : cE} {A : Nat → Prop} {ws : va_W} {ce sl b L i cn xo mo : Nat} {xs : Nat → Int32} (X : gX p s m meth c cL_law 4 ret yL_law #[Value.ref b] E A) (hX : va_X b L xs s s.heap) (hbl : b < s.heap.size) (hbA : ¬ A b) (hL : L ≤ 3072) (hi : i + 6 ≤ L) (hc : cn ≤ 600) (hr : ce + 4 ≤ 600000 ∧ sl + 1576 ≤ 7302250) (hW : LWw cn E xo mo ws) (kk : ∀ w2 : va_W, LWw (cn + 1) E xo mo w2 → kP (ce + 4) (sl + 1576) p l e room_1 s m #[Value.ref b] below meth c E A 4 Q w2 715 (lwL b xo mo i) []) : kP ce sl p l e room_1 s m #[Value.ref b] below meth c E A 4 Q ws 478 (lwL b xo mo i) [] := by
  obtain ⟨n, t, v, μ, B, len, r, q, rfl, ⟨rfl, rfl⟩, h1, h2, h57, h51⟩ := hW
  obtain ⟨x, u, w, e1, e2, h3, h4⟩ := q_row (N := 100000) (inR_t _) (by omega) h1
  refine k_aload_n X dL_law_478 1 rfl ?_
  refine k_arg X hX hbl hbA (j := 1) (by omega) hL (by decide) dL_law_479 dL_law_480 dL_law_481 dL_law_482 dL_law_483 ?_
  rw [List.append_assoc]
  refine k_tI X (cp_X11_row l E r 100000 ((xs (i + 1)).toInt) t _ e1) yy_X11_row yi_X11_row wdM_RL_79 (gO_H300) rfl rfl rfl (by decide) dL_law_484 ⟨by decide, by decide⟩ ⟨rfl, rfl⟩ ⟨by show ce ≤ 600000; omega, by show sl ≤ 7302250; omega⟩ ?_
  rw [← List.append_assoc]
  refine k_perm List.perm_append_comm ?_
  refine k_aload_n X dL_law_487 2 rfl ?_
  refine k_arg X hX hbl hbA (j := 1) (by omega) hL (by decide) dL_law_488 dL_law_489 dL_law_490 dL_law_491 dL_law_492 ?_
  refine k_tI X (cp_X12_row l E q 100000 ((xs (i + 1)).toInt) v _ e2) yy_X12_row yi_X12_row wdM_RL_82 (gO_M200) rfl rfl rfl (Nat.le_of_ble_eq_true rfl) dL_law_493 ⟨by decide, by decide⟩ ⟨rfl, rfl⟩ ⟨by show ce ≤ 600000; omega, by show sl ≤ 7302250; omega⟩ ?_
  refine k_perm List.perm_append_comm ?_
  refine k_eqI X (tgt := 715) dL_law_496 (by decide) ?_
  exact k_wide (by show ce ≤ ce + 4; omega) (by show sl ≤ sl + 1576; omega) (kk _ (LWw.of ⟨rfl, rfl⟩ h3.up (h2.mv h4 (by omega))))
set_option maxHeartbeats 1000000 in
theorem lc_draw {p : Program} {l : Launch} {e : Env} {s : State} {m : MethodId} {below : List Frame} {meth : Method} {c : Code} {Q : State → Prop} {E : cE} {A : Nat → Prop} {ws : va_W} {ce sl b L i cn xo mo : Nat} {xs : Nat → Int32} (X : gX p s m meth c cL_law 4 ret yL_law #[Value.ref b] E A) (hX : va_X b L xs s s.heap) (hbl : b < s.heap.size) (hbA : ¬ A b) (hL : L ≤ 3072) (hi : i + 6 ≤ L) (hc : cn ≤ 600) (hr : ce + 4 ≤ 600000 ∧ sl + 1576 ≤ 7302250) (hW : LWw cn E xo mo ws) (kk : ∀ w2 : va_W, LWw (cn + 1) E xo mo w2 → kP (ce + 4) (sl + 1576) p l e room_1 s m #[Value.ref b] below meth c E A 4 Q w2 715 (lwL b xo mo i) []) : kP ce sl p l e room_1 s m #[Value.ref b] below meth c E A 4 Q ws 501 (lwL b xo mo i) [] := by
  obtain ⟨n, t, v, μ, B, len, r, q, rfl, ⟨rfl, rfl⟩, h1, h2, h57, h51⟩ := hW
  obtain ⟨x, u, w, e1, e2, h3, h4⟩ := q_draw (N := 100000) (inR_t _) (inR_t _) (by omega) h1
  refine k_aload_n X dL_law_501 1 rfl ?_
  refine k_arg X hX hbl hbA (j := 1) (by omega) hL (by decide) dL_law_502 dL_law_503 dL_law_504 dL_law_505 dL_law_506 ?_
  refine k_arg X hX hbl hbA (j := 2) (by omega) hL (by decide) dL_law_507 dL_law_508 dL_law_509 dL_law_510 dL_law_511 ?_
  rw [List.append_assoc]
  refine k_tI X (cp_X11_draw l E r 100000 ((xs (i + 1)).toInt) ((xs (i + 2)).toInt) t _ e1) yy_X11_draw yi_X11_draw wdM_RL_83 (gO_H300) rfl rfl rfl (by decide) dL_law_512 ⟨by decide, by decide⟩ ⟨rfl, rfl⟩ ⟨by show ce ≤ 600000; omega, by show sl ≤ 7302250; omega⟩ ?_
  rw [← List.append_assoc]
  refine k_perm List.perm_append_comm ?_
  refine k_aload_n X dL_law_515 2 rfl ?_
  refine k_arg X hX hbl hbA (j := 1) (by omega) hL (by decide) dL_law_516 dL_law_517 dL_law_518 dL_law_519 dL_law_520 ?_
  refine k_arg X hX hbl hbA (j := 2) (by omega) hL (by decide) dL_law_521 dL_law_522 dL_law_523 dL_law_524 dL_law_525 ?_
  refine k_tI X (cp_X12_draw l E q 100000 ((xs (i + 1)).toInt) ((xs (i + 2)).toInt) v _ e2) yy_X12_draw yi_X12_draw wdM_RL_86 (gO_M200) rfl rfl rfl (Nat.le_of_ble_eq_true rfl) dL_law_526 ⟨by decide, by decide⟩ ⟨rfl, rfl⟩ ⟨by show ce ≤ 600000; omega, by show sl ≤ 7302250; omega⟩ ?_
  refine k_perm List.perm_append_comm ?_
  refine k_eqI X (tgt := 715) dL_law_529 (by decide) ?_
  exact k_wide (by show ce ≤ ce + 4; omega) (by show sl ≤ sl + 1576; omega) (kk _ (LWw.of ⟨rfl, rfl⟩ h3.up (h2.mv h4 (by omega))))
set_option maxHeartbeats 1000000 in
theorem lc_cheapest {p : Program} {l : Launch} {e : Env} {s : State} {m : MethodId} {below : List Frame} {meth : Method} {c : Code} {Q : State → Prop} {E : cE} {A : Nat → Prop} {ws : va_W} {ce sl b L i cn xo mo : Nat} {xs : Nat → Int32} (X : gX p s m meth c cL_law 4 ret yL_law #[Value.ref b] E A) (hX : va_X b L xs s s.heap) (hbl : b < s.heap.size) (hbA : ¬ A b) (hL : L ≤ 3072) (hi : i + 6 ≤ L) (hc : cn ≤ 600) (hr : ce + 4 ≤ 600000 ∧ sl + 1576 ≤ 7302250) (hW : LWw cn E xo mo ws) (kk : ∀ w2 : va_W, LWw (cn + 1) E xo mo w2 → kP (ce + 4) (sl + 1576) p l e room_1 s m #[Value.ref b] below meth c E A 4 Q w2 715 (lwL b xo mo i) []) : kP ce sl p l e room_1 s m #[Value.ref b] below meth c E A 4 Q ws 534 (lwL b xo mo i) [] := by
  obtain ⟨n, t, v, μ, B, len, r, q, rfl, ⟨rfl, rfl⟩, h1, h2, h57, h51⟩ := hW
  obtain ⟨x, u, w, e1, e2, h3, h4⟩ := q_cheapest (N := 100000) (by omega) h1
  refine k_aload_n X dL_law_534 1 rfl ?_
  rw [List.append_assoc]
  refine k_tI X (cp_X11_cheapest l E r 100000 t _ e1) yy_X11_cheapest yi_X11_cheapest wdM_RL_87 (gO_H300) rfl rfl rfl (by decide) dL_law_535 ⟨by decide, by decide⟩ ⟨rfl, rfl⟩ ⟨by show ce ≤ 600000; omega, by show sl ≤ 7302250; omega⟩ ?_
  rw [← List.append_assoc]
  refine k_perm List.perm_append_comm ?_
  refine k_aload_n X dL_law_538 2 rfl ?_
  refine k_tI X (cp_X12_cheapest l E q 100000 v _ e2) yy_X12_cheapest yi_X12_cheapest wdM_RL_90 (gO_M200) rfl rfl rfl (Nat.le_of_ble_eq_true rfl) dL_law_539 ⟨by decide, by decide⟩ ⟨rfl, rfl⟩ ⟨by show ce ≤ 600000; omega, by show sl ≤ 7302250; omega⟩ ?_
  refine k_perm List.perm_append_comm ?_
  refine k_eqI X (tgt := 715) dL_law_542 (by decide) ?_
  exact k_wide (by show ce ≤ ce + 4; omega) (by show sl ≤ sl + 1576; omega) (kk _ (LWw.of ⟨rfl, rfl⟩ h3.up (h2.mv h4 (by omega))))
set_option maxHeartbeats 1000000 in
theorem lc_found {p : Program} {l : Launch} {e : Env} {s : State} {m : MethodId} {below : List Frame} {meth : Method} {c : Code} {Q : State → Prop} {E : cE} {A : Nat → Prop} {ws : va_W} {ce sl b L i cn xo mo : Nat} {xs : Nat → Int32} (X : gX p s m meth c cL_law 4 ret yL_law #[Value.ref b] E A) (hX : va_X b L xs s s.heap) (hbl : b < s.heap.size) (hbA : ¬ A b) (hL : L ≤ 3072) (hi : i + 6 ≤ L) (hc : cn ≤ 600) (hr : ce + 4 ≤ 600000 ∧ sl + 1576 ≤ 7302250) (hW : LWw cn E xo mo ws) (kk : ∀ w2 : va_W, LWw (cn + 1) E xo mo w2 → kP (ce + 4) (sl + 1576) p l e room_1 s m #[Value.ref b] below meth c E A 4 Q w2 715 (lwL b xo mo i) []) : kP ce sl p l e room_1 s m #[Value.ref b] below meth c E A 4 Q ws 547 (lwL b xo mo i) [] := by
  obtain ⟨n, t, v, μ, B, len, r, q, rfl, ⟨rfl, rfl⟩, h1, h2, h57, h51⟩ := hW
  obtain ⟨x, e1, e2⟩ := q_found (N := 100000) (inR_t _) h1
  refine k_aload_n X dL_law_547 1 rfl ?_
  refine k_arg X hX hbl hbA (j := 1) (by omega) hL (by decide) dL_law_548 dL_law_549 dL_law_550 dL_law_551 dL_law_552 ?_
  rw [List.append_assoc]
  refine k_tI X (cp_X11_found l E r 100000 ((xs (i + 1)).toInt) t _ e1) yy_X11_found yi_X11_found wdM_RL_91 (gO_H300) rfl rfl rfl (by decide) dL_law_553 ⟨by decide, by decide⟩ ⟨rfl, rfl⟩ ⟨by show ce ≤ 600000; omega, by show sl ≤ 7302250; omega⟩ ?_
  rw [← List.append_assoc]
  refine k_perm List.perm_append_comm ?_
  refine k_aload_n X dL_law_556 2 rfl ?_
  refine k_arg X hX hbl hbA (j := 1) (by omega) hL (by decide) dL_law_557 dL_law_558 dL_law_559 dL_law_560 dL_law_561 ?_
  refine k_tI X (cp_X12_found l E q 100000 ((xs (i + 1)).toInt) v _ e2) yy_X12_found yi_X12_found wdM_RL_94 (gO_M200) rfl rfl rfl (Nat.le_of_ble_eq_true rfl) dL_law_562 ⟨by decide, by decide⟩ ⟨rfl, rfl⟩ ⟨by show ce ≤ 600000; omega, by show sl ≤ 7302250; omega⟩ ?_
  refine k_perm List.perm_append_comm ?_
  refine k_eqI X (tgt := 715) dL_law_565 (by decide) ?_
  exact k_wide (by show ce ≤ ce + 4; omega) (by show sl ≤ sl + 1576; omega) (kk _ (LWw.of ⟨rfl, rfl⟩ h1.up (h2.mv HKf.rf (by omega))))
set_option maxHeartbeats 1000000 in
theorem lc_follow {p : Program} {l : Launch} {e : Env} {s : State} {m : MethodId} {below : List Frame} {meth : Method} {c : Code} {Q : State → Prop} {E : cE} {A : Nat → Prop} {ws : va_W} {ce sl b L i cn xo mo : Nat} {xs : Nat → Int32} (X : gX p s m meth c cL_law 4 ret yL_law #[Value.ref b] E A) (hX : va_X b L xs s s.heap) (hbl : b < s.heap.size) (hbA : ¬ A b) (hL : L ≤ 3072) (hi : i + 6 ≤ L) (hc : cn ≤ 600) (hr : ce + 4 ≤ 600000 ∧ sl + 1576 ≤ 7302250) (hW : LWw cn E xo mo ws) (kk : ∀ w2 : va_W, LWw (cn + 1) E xo mo w2 → kP (ce + 4) (sl + 1576) p l e room_1 s m #[Value.ref b] below meth c E A 4 Q w2 715 (lwL b xo mo i) []) : kP ce sl p l e room_1 s m #[Value.ref b] below meth c E A 4 Q ws 570 (lwL b xo mo i) [] := by
  obtain ⟨n, t, v, μ, B, len, r, q, rfl, ⟨rfl, rfl⟩, h1, h2, h57, h51⟩ := hW
  obtain ⟨x, w, e2, hM⟩ := q_follow (N := 100000) (by omega) hc h1 h2 h57 h51
  refine k_aload_n X dL_law_570 1 rfl ?_
  obtain ⟨S, post, w9, hM1, hM2⟩ := hM l E r
  refine k_callI X hM1 yy_X11_follow yi_X11_follow wdM_RL_95 0 11 (show ((gW E r shH t ++ exL E r B len μ) ++ gW E q shM v)[0]? = some _ from rfl) rfl rfl rfl (by decide) dL_law_571 ⟨by decide, by decide⟩ ⟨hr.1, hr.2⟩ (fun r9 u9 h9 => ?_)
  obtain ⟨h91, r2, t2, μ2, B2, len2, h92, h93, h94, h95⟩ := hM2 r9 u9 h9
  subst h91
  rw [h92]
  refine k_perm List.perm_append_comm ?_
  refine k_aload_n X dL_law_574 2 rfl ?_
  refine k_tI X (cp_X12_follow l E q 100000 v _ e2) yy_X12_follow yi_X12_follow wdM_RL_98 (gO_M200) rfl rfl rfl (Nat.le_of_ble_eq_true rfl) dL_law_575 ⟨by decide, by decide⟩ ⟨rfl, rfl⟩ ⟨by show ce + 4 ≤ 600000; omega, by show sl + 1576 ≤ 7302250; omega⟩ ?_
  refine k_perm List.perm_append_comm ?_
  refine k_eqI X (tgt := 715) dL_law_578 (by decide) ?_
  exact k_wide (by show ce + 4 ≤ ce + 4; omega) (by show sl + 1576 ≤ sl + 1576; omega) (kk _ (LWw.of ⟨h93 300 (by omega), rfl⟩ h94 h95))
set_option maxHeartbeats 1000000 in
theorem lc_times {p : Program} {l : Launch} {e : Env} {s : State} {m : MethodId} {below : List Frame} {meth : Method} {c : Code} {Q : State → Prop} {E : cE} {A : Nat → Prop} {ws : va_W} {ce sl b L i cn xo mo : Nat} {xs : Nat → Int32} (X : gX p s m meth c cL_law 4 ret yL_law #[Value.ref b] E A) (hX : va_X b L xs s s.heap) (hbl : b < s.heap.size) (hbA : ¬ A b) (hL : L ≤ 3072) (hi : i + 6 ≤ L) (hc : cn ≤ 600) (hr : ce + 4 ≤ 600000 ∧ sl + 1576 ≤ 7302250) (hW : LWw cn E xo mo ws) (kk : ∀ w2 : va_W, LWw (cn + 1) E xo mo w2 → kP (ce + 4) (sl + 1576) p l e room_1 s m #[Value.ref b] below meth c E A 4 Q w2 715 (lwL b xo mo i) []) : kP ce sl p l e room_1 s m #[Value.ref b] below meth c E A 4 Q ws 583 (lwL b xo mo i) [] := by
  obtain ⟨n, t, v, μ, B, len, r, q, rfl, ⟨rfl, rfl⟩, h1, h2, h57, h51⟩ := hW
  obtain ⟨x, u, w, e1, e2, h3, h4⟩ := q_times (N := 100000) (inR_t _) (inR_t _) (inR_t _) (by omega) hc h1
  refine k_aload_n X dL_law_583 1 rfl ?_
  refine k_arg X hX hbl hbA (j := 1) (by omega) hL (by decide) dL_law_584 dL_law_585 dL_law_586 dL_law_587 dL_law_588 ?_
  refine k_arg X hX hbl hbA (j := 2) (by omega) hL (by decide) dL_law_589 dL_law_590 dL_law_591 dL_law_592 dL_law_593 ?_
  refine k_arg X hX hbl hbA (j := 3) (by omega) hL (by decide) dL_law_594 dL_law_595 dL_law_596 dL_law_597 dL_law_598 ?_
  rw [List.append_assoc]
  refine k_tI X (cp_X11_times l E r 100000 ((xs (i + 1)).toInt) ((xs (i + 2)).toInt) ((xs (i + 3)).toInt) t _ e1) yy_X11_times yi_X11_times wdM_RL_99 (gO_H300) rfl rfl rfl (by decide) dL_law_599 ⟨by decide, by decide⟩ ⟨rfl, rfl⟩ ⟨by show ce ≤ 600000; omega, by show sl ≤ 7302250; omega⟩ ?_
  rw [← List.append_assoc]
  refine k_perm List.perm_append_comm ?_
  refine k_aload_n X dL_law_602 2 rfl ?_
  refine k_arg X hX hbl hbA (j := 1) (by omega) hL (by decide) dL_law_603 dL_law_604 dL_law_605 dL_law_606 dL_law_607 ?_
  refine k_arg X hX hbl hbA (j := 2) (by omega) hL (by decide) dL_law_608 dL_law_609 dL_law_610 dL_law_611 dL_law_612 ?_
  refine k_arg X hX hbl hbA (j := 3) (by omega) hL (by decide) dL_law_613 dL_law_614 dL_law_615 dL_law_616 dL_law_617 ?_
  refine k_tI X (cp_X12_times l E q 100000 ((xs (i + 1)).toInt) ((xs (i + 2)).toInt) ((xs (i + 3)).toInt) v _ e2) yy_X12_times yi_X12_times wdM_RL_103 (gO_M200) rfl rfl rfl (Nat.le_of_ble_eq_true rfl) dL_law_618 ⟨by decide, by decide⟩ ⟨rfl, rfl⟩ ⟨by show ce ≤ 600000; omega, by show sl ≤ 7302250; omega⟩ ?_
  refine k_perm List.perm_append_comm ?_
  refine k_eqI X (tgt := 715) dL_law_621 (by decide) ?_
  exact k_wide (by show ce ≤ ce + 4; omega) (by show sl ≤ sl + 1576; omega) (kk _ (LWw.of ⟨rfl, rfl⟩ h3 (h2.mv h4 (by omega))))
set_option maxHeartbeats 1000000 in
theorem lc_dancer {p : Program} {l : Launch} {e : Env} {s : State} {m : MethodId} {below : List Frame} {meth : Method} {c : Code} {Q : State → Prop} {E : cE} {A : Nat → Prop} {ws : va_W} {ce sl b L i cn xo mo : Nat} {xs : Nat → Int32} (X : gX p s m meth c cL_law 4 ret yL_law #[Value.ref b] E A) (hX : va_X b L xs s s.heap) (hbl : b < s.heap.size) (hbA : ¬ A b) (hL : L ≤ 3072) (hi : i + 6 ≤ L) (hc : cn ≤ 600) (hr : ce + 4 ≤ 600000 ∧ sl + 1576 ≤ 7302250) (hW : LWw cn E xo mo ws) (kk : ∀ w2 : va_W, LWw (cn + 1) E xo mo w2 → kP (ce + 4) (sl + 1576) p l e room_1 s m #[Value.ref b] below meth c E A 4 Q w2 715 (lwL b xo mo i) []) : kP ce sl p l e room_1 s m #[Value.ref b] below meth c E A 4 Q ws 626 (lwL b xo mo i) [] := by
  obtain ⟨n, t, v, μ, B, len, r, q, rfl, ⟨rfl, rfl⟩, h1, h2, h57, h51⟩ := hW
  obtain ⟨x, e1, e2⟩ := q_dancer (N := 100000) (inR_t _) (inR_t _) h1
  refine k_aload_n X dL_law_626 1 rfl ?_
  refine k_arg X hX hbl hbA (j := 1) (by omega) hL (by decide) dL_law_627 dL_law_628 dL_law_629 dL_law_630 dL_law_631 ?_
  refine k_arg X hX hbl hbA (j := 2) (by omega) hL (by decide) dL_law_632 dL_law_633 dL_law_634 dL_law_635 dL_law_636 ?_
  rw [List.append_assoc]
  refine k_tI X (cp_X11_dancer l E r 100000 ((xs (i + 1)).toInt) ((xs (i + 2)).toInt) t _ e1) yy_X11_dancer yi_X11_dancer wdM_RL_104 (gO_H300) rfl rfl rfl (by decide) dL_law_637 ⟨by decide, by decide⟩ ⟨rfl, rfl⟩ ⟨by show ce ≤ 600000; omega, by show sl ≤ 7302250; omega⟩ ?_
  rw [← List.append_assoc]
  refine k_perm List.perm_append_comm ?_
  refine k_aload_n X dL_law_640 2 rfl ?_
  refine k_arg X hX hbl hbA (j := 1) (by omega) hL (by decide) dL_law_641 dL_law_642 dL_law_643 dL_law_644 dL_law_645 ?_
  refine k_arg X hX hbl hbA (j := 2) (by omega) hL (by decide) dL_law_646 dL_law_647 dL_law_648 dL_law_649 dL_law_650 ?_
  refine k_tI X (cp_X12_dancer l E q 100000 ((xs (i + 1)).toInt) ((xs (i + 2)).toInt) v _ e2) yy_X12_dancer yi_X12_dancer wdM_RL_108 (gO_M200) rfl rfl rfl (Nat.le_of_ble_eq_true rfl) dL_law_651 ⟨by decide, by decide⟩ ⟨rfl, rfl⟩ ⟨by show ce ≤ 600000; omega, by show sl ≤ 7302250; omega⟩ ?_
  refine k_perm List.perm_append_comm ?_
  refine k_eqI X (tgt := 715) dL_law_654 (by decide) ?_
  exact k_wide (by show ce ≤ ce + 4; omega) (by show sl ≤ sl + 1576; omega) (kk _ (LWw.of ⟨rfl, rfl⟩ h1.up (h2.mv HKf.rf (by omega))))
set_option maxHeartbeats 1000000 in
theorem lc_at {p : Program} {l : Launch} {e : Env} {s : State} {m : MethodId} {below : List Frame} {meth : Method} {c : Code} {Q : State → Prop} {E : cE} {A : Nat → Prop} {ws : va_W} {ce sl b L i cn xo mo : Nat} {xs : Nat → Int32} (X : gX p s m meth c cL_law 4 ret yL_law #[Value.ref b] E A) (hX : va_X b L xs s s.heap) (hbl : b < s.heap.size) (hbA : ¬ A b) (hL : L ≤ 3072) (hi : i + 6 ≤ L) (hc : cn ≤ 600) (hr : ce + 4 ≤ 600000 ∧ sl + 1576 ≤ 7302250) (hW : LWw cn E xo mo ws) (kk : ∀ w2 : va_W, LWw (cn + 1) E xo mo w2 → kP (ce + 4) (sl + 1576) p l e room_1 s m #[Value.ref b] below meth c E A 4 Q w2 715 (lwL b xo mo i) []) : kP ce sl p l e room_1 s m #[Value.ref b] below meth c E A 4 Q ws 659 (lwL b xo mo i) [] := by
  obtain ⟨n, t, v, μ, B, len, r, q, rfl, ⟨rfl, rfl⟩, h1, h2, h57, h51⟩ := hW
  obtain ⟨x, e1, e2⟩ := q_at (N := 100000) (inR_t _) (inR_t _) (by omega) h1
  refine k_aload_n X dL_law_659 1 rfl ?_
  refine k_arg X hX hbl hbA (j := 1) (by omega) hL (by decide) dL_law_660 dL_law_661 dL_law_662 dL_law_663 dL_law_664 ?_
  refine k_arg X hX hbl hbA (j := 2) (by omega) hL (by decide) dL_law_665 dL_law_666 dL_law_667 dL_law_668 dL_law_669 ?_
  rw [List.append_assoc]
  refine k_tI X (cp_X11_at l E r 100000 ((xs (i + 1)).toInt) ((xs (i + 2)).toInt) t _ e1) yy_X11_at yi_X11_at wdM_RL_109 (gO_H300) rfl rfl rfl (by decide) dL_law_670 ⟨by decide, by decide⟩ ⟨rfl, rfl⟩ ⟨by show ce ≤ 600000; omega, by show sl ≤ 7302250; omega⟩ ?_
  rw [← List.append_assoc]
  refine k_perm List.perm_append_comm ?_
  refine k_aload_n X dL_law_673 2 rfl ?_
  refine k_arg X hX hbl hbA (j := 1) (by omega) hL (by decide) dL_law_674 dL_law_675 dL_law_676 dL_law_677 dL_law_678 ?_
  refine k_arg X hX hbl hbA (j := 2) (by omega) hL (by decide) dL_law_679 dL_law_680 dL_law_681 dL_law_682 dL_law_683 ?_
  refine k_tI X (cp_X12_at l E q 100000 ((xs (i + 1)).toInt) ((xs (i + 2)).toInt) v _ e2) yy_X12_at yi_X12_at wdM_RL_112 (gO_M200) rfl rfl rfl (Nat.le_of_ble_eq_true rfl) dL_law_684 ⟨by decide, by decide⟩ ⟨rfl, rfl⟩ ⟨by show ce ≤ 600000; omega, by show sl ≤ 7302250; omega⟩ ?_
  refine k_perm List.perm_append_comm ?_
  refine k_eqI X (tgt := 715) dL_law_687 (by decide) ?_
  exact k_wide (by show ce ≤ ce + 4; omega) (by show sl ≤ sl + 1576; omega) (kk _ (LWw.of ⟨rfl, rfl⟩ h1.up (h2.mv HKf.rf (by omega))))
set_option maxHeartbeats 1000000 in
theorem lc_about {p : Program} {l : Launch} {e : Env} {s : State} {m : MethodId} {below : List Frame} {meth : Method} {c : Code} {Q : State → Prop} {E : cE} {A : Nat → Prop} {ws : va_W} {ce sl b L i cn xo mo : Nat} {xs : Nat → Int32} (X : gX p s m meth c cL_law 4 ret yL_law #[Value.ref b] E A) (hX : va_X b L xs s s.heap) (hbl : b < s.heap.size) (hbA : ¬ A b) (hL : L ≤ 3072) (hi : i + 6 ≤ L) (hc : cn ≤ 600) (hr : ce + 4 ≤ 600000 ∧ sl + 1576 ≤ 7302250) (hW : LWw cn E xo mo ws) (kk : ∀ w2 : va_W, LWw (cn + 1) E xo mo w2 → kP (ce + 4) (sl + 1576) p l e room_1 s m #[Value.ref b] below meth c E A 4 Q w2 715 (lwL b xo mo i) []) : kP ce sl p l e room_1 s m #[Value.ref b] below meth c E A 4 Q ws 692 (lwL b xo mo i) [] := by
  obtain ⟨n, t, v, μ, B, len, r, q, rfl, ⟨rfl, rfl⟩, h1, h2, h57, h51⟩ := hW
  obtain ⟨x, e1, e2⟩ := q_about (N := 100000) (inR_t _) (by omega) h1 h2.1.1
  refine k_aload_n X dL_law_692 1 rfl ?_
  refine k_arg X hX hbl hbA (j := 1) (by omega) hL (by decide) dL_law_693 dL_law_694 dL_law_695 dL_law_696 dL_law_697 ?_
  rw [List.append_assoc]
  refine k_tI X (cp_X11_about l E r 100000 ((xs (i + 1)).toInt) t _ e1) yy_X11_about yi_X11_about wdM_RL_113 (gO_H300) rfl rfl rfl (by decide) dL_law_698 ⟨by decide, by decide⟩ ⟨rfl, rfl⟩ ⟨by show ce ≤ 600000; omega, by show sl ≤ 7302250; omega⟩ ?_
  rw [← List.append_assoc]
  refine k_perm List.perm_append_comm ?_
  refine k_aload_n X dL_law_701 2 rfl ?_
  refine k_arg X hX hbl hbA (j := 1) (by omega) hL (by decide) dL_law_702 dL_law_703 dL_law_704 dL_law_705 dL_law_706 ?_
  refine k_tI X (cp_X12_about l E q 100000 ((xs (i + 1)).toInt) v _ e2) yy_X12_about yi_X12_about wdM_RL_116 (gO_M200) rfl rfl rfl (Nat.le_of_ble_eq_true rfl) dL_law_707 ⟨by decide, by decide⟩ ⟨rfl, rfl⟩ ⟨by show ce ≤ 600000; omega, by show sl ≤ 7302250; omega⟩ ?_
  refine k_perm List.perm_append_comm ?_
  refine k_eqI X (tgt := 715) dL_law_710 (by decide) ?_
  exact k_wide (by show ce ≤ ce + 4; omega) (by show sl ≤ sl + 1576; omega) (kk _ (LWw.of ⟨rfl, rfl⟩ h1.up (h2.mv HKf.rf (by omega))))
