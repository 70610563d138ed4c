/-! the law: call -/
set_option maxHeartbeats 1000000 in
theorem lc_call {p : Program} {l : Launch} {e : Env} {s : State} {m : MethodId} {below : List Frame} {meth : Method} {c : Code} {Q : State → Prop} {E : cE} {A : Nat → Prop} {ws : va_W} {ce sl b L i cn xo mo : Nat} {xs : Nat → Int32} (X : gX p s m meth c cL_law 4 ret yL_law #[Value.ref b] E A) (hX : va_X b L xs s s.heap) (hbl : b < s.heap.size) (hbA : ¬ A b) (hL : L ≤ 3072) (hi : i + 6 ≤ L) (hc : cn ≤ 600) (hr : ce + 4 ≤ 600000 ∧ sl + 1576 ≤ 7302250) (hW : LWw cn E xo mo ws) (kk : ∀ w2 : va_W, LWw (cn + 1) E xo mo w2 → kP (ce + 4) (sl + 1576) p l e room_1 s m #[Value.ref b] below meth c E A 4 Q w2 715 (lwL b xo mo i) []) : kP ce sl p l e room_1 s m #[Value.ref b] below meth c E A 4 Q ws 243 (lwL b xo mo i) [] := by
  obtain ⟨n, t, v, μ, B, len, r, q, rfl, ⟨rfl, rfl⟩, h1, h2, h57, h51⟩ := hW
  obtain ⟨x, w, e2, hM⟩ := q_call (N := 100000) (by omega) hc h1 h2 h57 h51
  refine k_aload_n X dL_law_243 1 rfl ?_
  obtain ⟨S, post, w9, hM1, hM2⟩ := hM l E r
  refine k_callI X hM1 yy_X11_call yi_X11_call wdM_RL_28 0 11 (show ((gW E r shH t ++ exL E r B len μ) ++ gW E q shM v)[0]? = some _ from rfl) rfl rfl rfl (by decide) dL_law_244 ⟨by decide, by decide⟩ ⟨hr.1, hr.2⟩ (fun r9 u9 h9 => ?_)
  obtain ⟨h91, r2, t2, μ2, B2, len2, h92, h93, h94, h95⟩ := hM2 r9 u9 h9
  subst h91
  rw [h92]
  refine k_perm List.perm_append_comm ?_
  refine k_aload_n X dL_law_247 2 rfl ?_
  refine k_tI X (cp_X12_call l E q 100000 v _ e2) yy_X12_call yi_X12_call wdM_RL_31 (gO_M200) rfl rfl rfl (Nat.le_of_ble_eq_true rfl) dL_law_248 ⟨by decide, by decide⟩ ⟨rfl, rfl⟩ ⟨by show ce + 4 ≤ 600000; omega, by show sl + 1576 ≤ 7302250; omega⟩ ?_
  refine k_perm List.perm_append_comm ?_
  refine k_eqI X (tgt := 715) dL_law_251 (by decide) ?_
  exact k_wide (by show ce + 4 ≤ ce + 4; omega) (by show sl + 1576 ≤ sl + 1576; omega) (kk _ (LWw.of ⟨h93 300 (by omega), rfl⟩ h94 h95))
