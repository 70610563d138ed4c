/-! danceAt, step, call, follow: the code -/
theorem dX11_danceAt_0 : decode cX11_danceAt 0 = .ok (.aload_n 0, 1) := by decide +kernel
theorem dX11_danceAt_1 : decode cX11_danceAt 1 = .ok (.getfield 37, 3) := by decide +kernel
theorem dX11_danceAt_4 : decode cX11_danceAt 4 = .ok (.iload_n 1, 1) := by decide +kernel
theorem dX11_danceAt_5 : decode cX11_danceAt 5 = .ok (.aload_n 0, 1) := by decide +kernel
theorem dX11_danceAt_6 : decode cX11_danceAt 6 = .ok (.getfield 44, 3) := by decide +kernel
theorem dX11_danceAt_9 : decode cX11_danceAt 9 = .ok (.aload_n 0, 1) := by decide +kernel
theorem dX11_danceAt_10 : decode cX11_danceAt 10 = .ok (.getfield 44, 3) := by decide +kernel
theorem dX11_danceAt_13 : decode cX11_danceAt 13 = .ok (.invokevirtual 173, 3) := by decide +kernel
theorem dX11_danceAt_16 : decode cX11_danceAt 16 = .ok (.invokevirtual 217, 3) := by decide +kernel
theorem dX11_danceAt_19 : decode cX11_danceAt 19 = .ok (.istore_n 2, 1) := by decide +kernel
theorem dX11_danceAt_20 : decode cX11_danceAt 20 = .ok (.iload_n 2, 1) := by decide +kernel
theorem dX11_danceAt_21 : decode cX11_danceAt 21 = .ok (.ifCond .eq 9, 3) := by decide +kernel
theorem dX11_danceAt_24 : decode cX11_danceAt 24 = .ok (.aload_n 0, 1) := by decide +kernel
theorem dX11_danceAt_25 : decode cX11_danceAt 25 = .ok (.invokevirtual 192, 3) := by decide +kernel
theorem dX11_danceAt_28 : decode cX11_danceAt 28 = .ok (.iload_n 2, 1) := by decide +kernel
theorem dX11_danceAt_29 : decode cX11_danceAt 29 = .ok (.ireturn, 1) := by decide +kernel
theorem dX11_danceAt_30 : decode cX11_danceAt 30 = .ok (.aload_n 0, 1) := by decide +kernel
theorem dX11_danceAt_31 : decode cX11_danceAt 31 = .ok (.getfield 66, 3) := by decide +kernel
theorem dX11_danceAt_34 : decode cX11_danceAt 34 = .ok (.aload_n 0, 1) := by decide +kernel
theorem dX11_danceAt_35 : decode cX11_danceAt 35 = .ok (.getfield 44, 3) := by decide +kernel
theorem dX11_danceAt_38 : decode cX11_danceAt 38 = .ok (.aload_n 0, 1) := by decide +kernel
theorem dX11_danceAt_39 : decode cX11_danceAt 39 = .ok (.getfield 56, 3) := by decide +kernel
theorem dX11_danceAt_42 : decode cX11_danceAt 42 = .ok (.aload_n 0, 1) := by decide +kernel
theorem dX11_danceAt_43 : decode cX11_danceAt 43 = .ok (.getfield 158, 3) := by decide +kernel
theorem dX11_danceAt_46 : decode cX11_danceAt 46 = .ok (.aload_n 0, 1) := by decide +kernel
theorem dX11_danceAt_47 : decode cX11_danceAt 47 = .ok (.getfield 161, 3) := by decide +kernel
theorem dX11_danceAt_50 : decode cX11_danceAt 50 = .ok (.invokevirtual 181, 3) := by decide +kernel
theorem dX11_danceAt_53 : decode cX11_danceAt 53 = .ok (.aload_n 0, 1) := by decide +kernel
theorem dX11_danceAt_54 : decode cX11_danceAt 54 = .ok (.getfield 37, 3) := by decide +kernel
theorem dX11_danceAt_57 : decode cX11_danceAt 57 = .ok (.aload_n 0, 1) := by decide +kernel
theorem dX11_danceAt_58 : decode cX11_danceAt 58 = .ok (.getfield 44, 3) := by decide +kernel
theorem dX11_danceAt_61 : decode cX11_danceAt 61 = .ok (.invokevirtual 289, 3) := by decide +kernel
theorem dX11_danceAt_64 : decode cX11_danceAt 64 = .ok (.aload_n 0, 1) := by decide +kernel
theorem dX11_danceAt_65 : decode cX11_danceAt 65 = .ok (.invokevirtual 189, 3) := by decide +kernel
theorem dX11_danceAt_68 : decode cX11_danceAt 68 = .ok (.iconst 0, 1) := by decide +kernel
theorem dX11_danceAt_69 : decode cX11_danceAt 69 = .ok (.ireturn, 1) := by decide +kernel
theorem yy_X11_danceAt : cY yX11_danceAt cX11_danceAt 3 (some .int) 1 := ⟨wdK_X11_danceAt, wdZ_RX11, by decide +kernel⟩
theorem yi_X11_danceAt : cYi yX11_danceAt := ⟨wdN_X11_danceAt, wdS_X11_danceAt⟩
theorem dX11_step_0 : decode cX11_step 0 = .ok (.aload_n 0, 1) := by decide +kernel
theorem dX11_step_1 : decode cX11_step 1 = .ok (.getfield 56, 3) := by decide +kernel
theorem dX11_step_4 : decode cX11_step 4 = .ok (.getfield 151, 3) := by decide +kernel
theorem dX11_step_7 : decode cX11_step 7 = .ok (.ifCond .ne 5, 3) := by decide +kernel
theorem dX11_step_10 : decode cX11_step 10 = .ok (.iconst (-1), 1) := by decide +kernel
theorem dX11_step_11 : decode cX11_step 11 = .ok (.ireturn, 1) := by decide +kernel
theorem dX11_step_12 : decode cX11_step 12 = .ok (.aload_n 0, 1) := by decide +kernel
theorem dX11_step_13 : decode cX11_step 13 = .ok (.getfield 66, 3) := by decide +kernel
theorem dX11_step_16 : decode cX11_step 16 = .ok (.aload_n 0, 1) := by decide +kernel
theorem dX11_step_17 : decode cX11_step 17 = .ok (.getfield 44, 3) := by decide +kernel
theorem dX11_step_20 : decode cX11_step 20 = .ok (.aload_n 0, 1) := by decide +kernel
theorem dX11_step_21 : decode cX11_step 21 = .ok (.getfield 56, 3) := by decide +kernel
theorem dX11_step_24 : decode cX11_step 24 = .ok (.aload_n 0, 1) := by decide +kernel
theorem dX11_step_25 : decode cX11_step 25 = .ok (.getfield 158, 3) := by decide +kernel
theorem dX11_step_28 : decode cX11_step 28 = .ok (.aload_n 0, 1) := by decide +kernel
theorem dX11_step_29 : decode cX11_step 29 = .ok (.getfield 161, 3) := by decide +kernel
theorem dX11_step_32 : decode cX11_step 32 = .ok (.invokevirtual 181, 3) := by decide +kernel
theorem dX11_step_35 : decode cX11_step 35 = .ok (.aload_n 0, 1) := by decide +kernel
theorem dX11_step_36 : decode cX11_step 36 = .ok (.getfield 56, 3) := by decide +kernel
theorem dX11_step_39 : decode cX11_step 39 = .ok (.aload_n 0, 1) := by decide +kernel
theorem dX11_step_40 : decode cX11_step 40 = .ok (.getfield 44, 3) := by decide +kernel
theorem dX11_step_43 : decode cX11_step 43 = .ok (.invokevirtual 185, 3) := by decide +kernel
theorem dX11_step_46 : decode cX11_step 46 = .ok (.istore_n 1, 1) := by decide +kernel
theorem dX11_step_47 : decode cX11_step 47 = .ok (.iload_n 1, 1) := by decide +kernel
theorem dX11_step_48 : decode cX11_step 48 = .ok (.iconst 1, 1) := by decide +kernel
theorem dX11_step_49 : decode cX11_step 49 = .ok (.if_icmp .ne 9, 3) := by decide +kernel
theorem dX11_step_52 : decode cX11_step 52 = .ok (.aload_n 0, 1) := by decide +kernel
theorem dX11_step_53 : decode cX11_step 53 = .ok (.invokevirtual 189, 3) := by decide +kernel
theorem dX11_step_56 : decode cX11_step 56 = .ok (.iload_n 1, 1) := by decide +kernel
theorem dX11_step_57 : decode cX11_step 57 = .ok (.ireturn, 1) := by decide +kernel
theorem dX11_step_58 : decode cX11_step 58 = .ok (.aload_n 0, 1) := by decide +kernel
theorem dX11_step_59 : decode cX11_step 59 = .ok (.getfield 56, 3) := by decide +kernel
theorem dX11_step_62 : decode cX11_step 62 = .ok (.iconst 0, 1) := by decide +kernel
theorem dX11_step_63 : decode cX11_step 63 = .ok (.putfield 151, 3) := by decide +kernel
theorem dX11_step_66 : decode cX11_step 66 = .ok (.iload_n 1, 1) := by decide +kernel
theorem dX11_step_67 : decode cX11_step 67 = .ok (.iconst 2, 1) := by decide +kernel
theorem dX11_step_68 : decode cX11_step 68 = .ok (.if_icmp .ne 7, 3) := by decide +kernel
theorem dX11_step_71 : decode cX11_step 71 = .ok (.aload_n 0, 1) := by decide +kernel
theorem dX11_step_72 : decode cX11_step 72 = .ok (.invokevirtual 192, 3) := by decide +kernel
theorem dX11_step_75 : decode cX11_step 75 = .ok (.iload_n 1, 1) := by decide +kernel
theorem dX11_step_76 : decode cX11_step 76 = .ok (.ireturn, 1) := by decide +kernel
theorem yy_X11_step : cY yX11_step cX11_step 2 (some .int) 0 := ⟨wdK_X11_step, wdZ_RX11, by decide +kernel⟩
theorem yi_X11_step : cYi yX11_step := ⟨wdN_X11_step, wdS_X11_step⟩
theorem dX11_call_0 : decode cX11_call 0 = .ok (.aload_n 0, 1) := by decide +kernel
theorem dX11_call_1 : decode cX11_call 1 = .ok (.getfield 10, 3) := by decide +kernel
theorem dX11_call_4 : decode cX11_call 4 = .ok (.invokevirtual 112, 3) := by decide +kernel
theorem dX11_call_7 : decode cX11_call 7 = .ok (.aload_n 0, 1) := by decide +kernel
theorem dX11_call_8 : decode cX11_call 8 = .ok (.getfield 19, 3) := by decide +kernel
theorem dX11_call_11 : decode cX11_call 11 = .ok (.getfield 128, 3) := by decide +kernel
theorem dX11_call_14 : decode cX11_call 14 = .ok (.istore_n 1, 1) := by decide +kernel
theorem dX11_call_15 : decode cX11_call 15 = .ok (.aload_n 0, 1) := by decide +kernel
theorem dX11_call_16 : decode cX11_call 16 = .ok (.getfield 28, 3) := by decide +kernel
theorem dX11_call_19 : decode cX11_call 19 = .ok (.invokevirtual 131, 3) := by decide +kernel
theorem dX11_call_22 : decode cX11_call 22 = .ok (.aload_n 0, 1) := by decide +kernel
theorem dX11_call_23 : decode cX11_call 23 = .ok (.aload_n 0, 1) := by decide +kernel
theorem dX11_call_24 : decode cX11_call 24 = .ok (.getfield 28, 3) := by decide +kernel
theorem dX11_call_27 : decode cX11_call 27 = .ok (.getfield 118, 3) := by decide +kernel
theorem dX11_call_30 : decode cX11_call 30 = .ok (.putfield 121, 3) := by decide +kernel
theorem dX11_call_33 : decode cX11_call 33 = .ok (.aload_n 0, 1) := by decide +kernel
theorem dX11_call_34 : decode cX11_call 34 = .ok (.getfield 121, 3) := by decide +kernel
theorem dX11_call_37 : decode cX11_call 37 = .ok (.ifCond .ne 11, 3) := by decide +kernel
theorem dX11_call_40 : decode cX11_call 40 = .ok (.aload_n 0, 1) := by decide +kernel
theorem dX11_call_41 : decode cX11_call 41 = .ok (.iload_n 1, 1) := by decide +kernel
theorem dX11_call_42 : decode cX11_call 42 = .ok (.invokevirtual 134, 3) := by decide +kernel
theorem dX11_call_45 : decode cX11_call 45 = .ok (.goto 13, 3) := by decide +kernel
theorem dX11_call_48 : decode cX11_call 48 = .ok (.bipush (-2), 2) := by decide +kernel
theorem dX11_call_50 : decode cX11_call 50 = .ok (.aload_n 0, 1) := by decide +kernel
theorem dX11_call_51 : decode cX11_call 51 = .ok (.getfield 28, 3) := by decide +kernel
theorem dX11_call_54 : decode cX11_call 54 = .ok (.invokevirtual 124, 3) := by decide +kernel
theorem dX11_call_57 : decode cX11_call 57 = .ok (.isub, 1) := by decide +kernel
theorem dX11_call_58 : decode cX11_call 58 = .ok (.istore_n 2, 1) := by decide +kernel
theorem dX11_call_59 : decode cX11_call 59 = .ok (.aload_n 0, 1) := by decide +kernel
theorem dX11_call_60 : decode cX11_call 60 = .ok (.getfield 19, 3) := by decide +kernel
theorem dX11_call_63 : decode cX11_call 63 = .ok (.iload_n 1, 1) := by decide +kernel
theorem dX11_call_64 : decode cX11_call 64 = .ok (.putfield 128, 3) := by decide +kernel
theorem dX11_call_67 : decode cX11_call 67 = .ok (.iload_n 2, 1) := by decide +kernel
theorem dX11_call_68 : decode cX11_call 68 = .ok (.ireturn, 1) := by decide +kernel
theorem yy_X11_call : cY yX11_call cX11_call 3 (some .int) 0 := ⟨wdK_X11_call, wdZ_RX11, by decide +kernel⟩
theorem yi_X11_call : cYi yX11_call := ⟨wdN_X11_call, wdS_X11_call⟩
theorem dX11_follow_0 : decode cX11_follow 0 = .ok (.aload_n 0, 1) := by decide +kernel
theorem dX11_follow_1 : decode cX11_follow 1 = .ok (.getfield 75, 3) := by decide +kernel
theorem dX11_follow_4 : decode cX11_follow 4 = .ok (.aload_n 0, 1) := by decide +kernel
theorem dX11_follow_5 : decode cX11_follow 5 = .ok (.getfield 75, 3) := by decide +kernel
theorem dX11_follow_8 : decode cX11_follow 8 = .ok (.getfield 245, 3) := by decide +kernel
theorem dX11_follow_11 : decode cX11_follow 11 = .ok (.invokevirtual 242, 3) := by decide +kernel
theorem dX11_follow_14 : decode cX11_follow 14 = .ok (.istore_n 1, 1) := by decide +kernel
theorem dX11_follow_15 : decode cX11_follow 15 = .ok (.iload_n 1, 1) := by decide +kernel
theorem dX11_follow_16 : decode cX11_follow 16 = .ok (.ifCond .lt 14, 3) := by decide +kernel
theorem dX11_follow_19 : decode cX11_follow 19 = .ok (.iload_n 1, 1) := by decide +kernel
theorem dX11_follow_20 : decode cX11_follow 20 = .ok (.aload_n 0, 1) := by decide +kernel
theorem dX11_follow_21 : decode cX11_follow 21 = .ok (.getfield 19, 3) := by decide +kernel
theorem dX11_follow_24 : decode cX11_follow 24 = .ok (.getfield 211, 3) := by decide +kernel
theorem dX11_follow_27 : decode cX11_follow 27 = .ok (.if_icmp .lt 5, 3) := by decide +kernel
theorem dX11_follow_30 : decode cX11_follow 30 = .ok (.iconst (-1), 1) := by decide +kernel
theorem dX11_follow_31 : decode cX11_follow 31 = .ok (.ireturn, 1) := by decide +kernel
theorem dX11_follow_32 : decode cX11_follow 32 = .ok (.aload_n 0, 1) := by decide +kernel
theorem dX11_follow_33 : decode cX11_follow 33 = .ok (.aload_n 0, 1) := by decide +kernel
theorem dX11_follow_34 : decode cX11_follow 34 = .ok (.getfield 19, 3) := by decide +kernel
theorem dX11_follow_37 : decode cX11_follow 37 = .ok (.getfield 214, 3) := by decide +kernel
theorem dX11_follow_40 : decode cX11_follow 40 = .ok (.iload_n 1, 1) := by decide +kernel
theorem dX11_follow_41 : decode cX11_follow 41 = .ok (.iaload, 1) := by decide +kernel
theorem dX11_follow_42 : decode cX11_follow 42 = .ok (.invokevirtual 134, 3) := by decide +kernel
theorem dX11_follow_45 : decode cX11_follow 45 = .ok (.istore_n 2, 1) := by decide +kernel
theorem dX11_follow_46 : decode cX11_follow 46 = .ok (.iload_n 2, 1) := by decide +kernel
theorem dX11_follow_47 : decode cX11_follow 47 = .ok (.ifCond .ne 16, 3) := by decide +kernel
theorem dX11_follow_50 : decode cX11_follow 50 = .ok (.aload_n 0, 1) := by decide +kernel
theorem dX11_follow_51 : decode cX11_follow 51 = .ok (.getfield 75, 3) := by decide +kernel
theorem dX11_follow_54 : decode cX11_follow 54 = .ok (.dup, 1) := by decide +kernel
theorem dX11_follow_55 : decode cX11_follow 55 = .ok (.getfield 245, 3) := by decide +kernel
theorem dX11_follow_58 : decode cX11_follow 58 = .ok (.iconst 1, 1) := by decide +kernel
theorem dX11_follow_59 : decode cX11_follow 59 = .ok (.iadd, 1) := by decide +kernel
theorem dX11_follow_60 : decode cX11_follow 60 = .ok (.putfield 245, 3) := by decide +kernel
theorem dX11_follow_63 : decode cX11_follow 63 = .ok (.iload_n 2, 1) := by decide +kernel
theorem dX11_follow_64 : decode cX11_follow 64 = .ok (.ireturn, 1) := by decide +kernel
theorem yy_X11_follow : cY yX11_follow cX11_follow 3 (some .int) 0 := ⟨wdK_X11_follow, wdZ_RX11, by decide +kernel⟩
theorem yi_X11_follow : cYi yX11_follow := ⟨wdN_X11_follow, wdS_X11_follow⟩
def NTh (N : Nat) (t μ : St) (B i : Nat) (len : Nat → Nat) (z : St) : Prop := t.1 309 1 = i ∧ (i ≤ B ∧ B ≤ 201 ∧ i < 201) ∧ t.1 311 3 ≤ 1000 ∧ (i < B → len i ≤ 1500) ∧ f_X5_note N 0 0 (if i < B then len i else 4) (cmb t (if i < B then μ else mU μ i zZ 0 0) i) = some z ∧ ∀ id, id < 1000 → z.1 id = t.1 id ∧ z.2 id = t.2 id
def NPo (r len : Nat → Nat) (i : Nat) (z : St) (u : (Nat → Nat) × (Nat → Nat)) : Prop := (∀ id, id < 1000 → u.1 id = r id) ∧ (∀ j, j ≠ i → u.2 j = len j) ∧ u.2 i ≤ 1500 ∧ z.1 1000 5 ≤ (u.2 i : Int)
/-- a step was danced, a Moment kept before it: the answer, the hall's cells, the Moments -/
abbrev qDn (E : cE) (r len : Nat → Nat) (μ z : St) (B i : Nat) (b st v : Int) (t9 : St) := qI E (fun (r9 : Int32) (u : (Nat → Nat) × (Nat → Nat)) => r9 = Int32.ofInt v ∧ NPo r len i z u) (fun (u : (Nat → Nat) × (Nat → Nat)) => gW E u.1 shH t9 ++ exL E u.1 (if i < B then B else B + 1) u.2 (mU μ i z b st))
abbrev qSm (E : cE) (r : Nat → Nat) (W0 : va_W) (v : Int) (t9 : St) := qI E (fun (r9 : Int32) (_ : Unit) => r9 = Int32.ofInt v) (fun (_ : Unit) => gW E r shH t9 ++ W0)
section KD
variable {p : Program} {l : Launch} {e : Env} {R : Room} {s : State} {m : MethodId} {args : Array Value} {below : List Frame} {meth : Method} {c : Code} {Q : State → Prop}
variable {E : cE} {A : Nat → Prop} {cc : ByteArray} {mL : Nat} {ret : Option FieldType} {y0 : MethodName}
variable {ws : va_W} {ce sl pc : Nat} {lv : List (Nat × Value)} {rest : List Value} {t μ : St} {r : Nat → Nat} {W0 : va_W}
variable {y : MethodName} {bytes : ByteArray} {maxL : Nat} {ret1 : Option FieldType} {rm : Room} {idx n : Nat} {As st0 : List Value}
theorem k_hV (X : gX p s m meth c cc mL ret y0 args E A) {id ci : Nat} {u : St} (hM : cM l E y bytes maxL ret1 rm (.ref (r id) :: As) (gW E r shH t) (gqV E (gW E r shH) u)) (hY : cY y bytes maxL ret1 n) (hI : cYi y) (hlink : Cond.methodLink y0.cls idx y ∈ TB) (hO : gO shH id ci) {T : u_T} {N : Nat} (hci : vwCl[ci]? = some (y.cls, T, N)) (hlen : As.length = n) (hst : st0 = As.reverse ++ .ref (r id) :: rest) (hcat : (rest.map fun v => v.category).sum ≤ 8) (hdg : decode cc pc = .ok (.invokevirtual idx, 3)) (hR : rm.frames + 1 ≤ R.frames ∧ 8 + (maxL + 11) + rm.locals ≤ R.locals) (h0 : rm.cells = 0 ∧ rm.slots = 0) (hf : ce ≤ R.cells ∧ sl ≤ R.slots) (kk : kP ce sl p l e R s m args below meth c E A mL Q (gW E r shH u ++ W0) (pc + 3) lv rest) : kP ce sl p l e R s m args below meth c E A mL Q (gW E r shH t ++ W0) pc lv st0 := by
  obtain ⟨rq, fs, hrq⟩ := hO
  refine k_callV X hM hY hI hlink rq ci (gW_ap hrq) hci hlen hst hcat hdg hR (by rw [h0.1, h0.2]; exact hf) (fun _ _ => ?_)
  rw [h0.1, h0.2]
  exact kk
theorem k_hI (X : gX p s m meth c cc mL ret y0 args E A) {id ci : Nat} {v : Int} {u : St} (hM : cM l E y bytes maxL ret1 rm (.ref (r id) :: As) (gW E r shH t) (gqI E (gW E r shH) (v, u))) (hY : cY y bytes maxL ret1 n) (hI : cYi y) (hlink : Cond.methodLink y0.cls idx y ∈ TB) (hO : gO shH id ci) {T : u_T} {N : Nat} (hci : vwCl[ci]? = some (y.cls, T, N)) (hlen : As.length = n) (hst : st0 = As.reverse ++ .ref (r id) :: rest) (hcat : (rest.map fun v => v.category).sum ≤ 8) (hdg : decode cc pc = .ok (.invokevirtual idx, 3)) (hR : rm.frames + 1 ≤ R.frames ∧ 8 + (maxL + 11) + rm.locals ≤ R.locals) (h0 : rm.cells = 0 ∧ rm.slots = 0) (hf : ce ≤ R.cells ∧ sl ≤ R.slots) (kk : kP ce sl p l e R s m args below meth c E A mL Q (gW E r shH u ++ W0) (pc + 3) lv (iv v :: rest)) : kP ce sl p l e R s m args below meth c E A mL Q (gW E r shH t ++ W0) pc lv st0 := by
  obtain ⟨rq, fs, hrq⟩ := hO
  refine k_callI X hM hY hI hlink rq ci (gW_ap hrq) hci hlen hst hcat hdg hR (by rw [h0.1, h0.2]; exact hf) (fun r9 _ h9 => ?_)
  rw [h0.1, h0.2]
  have h9 : r9 = Int32.ofInt v := h9
  subst h9
  exact kk
theorem k_hL (X : gX p s m meth c cc mL ret y0 args E A) {id ci : Nat} {v : Int64} {u : St} (hM : cM l E y bytes maxL ret1 rm (.ref (r id) :: As) (gW E r shH t) (gqL E (gW E r shH) (v, u))) (hY : cY y bytes maxL ret1 n) (hI : cYi y) (hlink : Cond.methodLink y0.cls idx y ∈ TB) (hO : gO shH id ci) {T : u_T} {N : Nat} (hci : vwCl[ci]? = some (y.cls, T, N)) (hlen : As.length = n) (hst : st0 = As.reverse ++ .ref (r id) :: rest) (hcat : (rest.map fun v => v.category).sum ≤ 8) (hdg : decode cc pc = .ok (.invokevirtual idx, 3)) (hR : rm.frames + 1 ≤ R.frames ∧ 8 + (maxL + 11) + rm.locals ≤ R.locals) (h0 : rm.cells = 0 ∧ rm.slots = 0) (hf : ce ≤ R.cells ∧ sl ≤ R.slots) (kk : kP ce sl p l e R s m args below meth c E A mL Q (gW E r shH u ++ W0) (pc + 3) lv (.long v :: rest)) : kP ce sl p l e R s m args below meth c E A mL Q (gW E r shH t ++ W0) pc lv st0 := by
  obtain ⟨rq, fs, hrq⟩ := hO
  refine k_callL X hM hY hI hlink rq ci (gW_ap hrq) hci hlen hst hcat hdg hR (by rw [h0.1, h0.2]; exact hf) (fun r9 _ h9 => ?_)
  rw [h0.1, h0.2]
  have h9 : r9 = v := h9
  subst h9
  exact kk
/-- the history notes -/
theorem k_note (X : gX p s m meth c cc mL ret y0 args E A) {N B i : Nat} {len : Nat → Nat} {z : St} {b st : Int} (h : NTh N t μ B i len z) (hlink : Cond.methodLink y0.cls idx yX4_note ∈ TB) (hdg : decode cc pc = .ok (.invokevirtual idx, 3)) (hR : 4 ≤ R.frames ∧ 125 ≤ R.locals) (hf : ce + 4 ≤ R.cells ∧ sl + 1576 ≤ R.slots) (hst : st0 = [iv st, iv b, .ref (r (307 + 0)), .ref (r (305 + 0)), .ref (r 309)]) (kk : ∀ u : (Nat → Nat) × (Nat → Nat), NPo r len i z u → kP (ce + 4) (sl + 1576) p l e R s m args below meth c E A mL Q (gW E u.1 shH t ++ exL E u.1 (if i < B then B else B + 1) u.2 (mU μ i z b st)) (pc + 3) lv []) : kP ce sl p l e R s m args below meth c E A mL Q (gW E r shH t ++ exL E r B len μ) pc lv st0 := by
  obtain ⟨h1, h2, h3, h4, h5, h6⟩ := h
  suffices hk : kP ce sl p l e R s m args below meth c E A mL Q ((gW E r shH t ++ exL E r B len μ) ++ []) pc lv st0 by
    rw [List.append_nil] at hk
    exact hk
  refine k_callV (rest := []) X (c_X4_note l E r N t μ B i len b st z h1 h2 h3 h4 h5 h6) yy_X4_note yi_X4_note hlink 9 4 (by rw [List.append_nil]; exact gW_ap oH_309) rfl rfl hst (Nat.le_of_ble_eq_true rfl) hdg ⟨hR.1, by show 8 + (6 + 11) + 100 ≤ R.locals; omega⟩ hf (fun u hu => ?_)
  rw [List.append_nil]
  exact kk u hu
abbrev rm_danceAt : Room := { frames := 5, cells := 4, slots := 1576, locals := 152 }
/-- danceAt: the step can't be danced -/
theorem c_dance0 (l : Launch) (E : cE) (r : Nat → Nat) (N : Nat) (W0 : va_W) (a : Int) (t : St) (ev : Int64) (v : Int) (t1 t2 : St) (hv : inR v) (hv0 : v ≠ 0) (h1 : f_X3_everybody N 0 t = some (ev, t)) (h2 : f_X1_attempt N 0 a ev t = some (v, t1)) (h3 : f_X11_noteFailure N t1 = some t2) : cM l E yX11_danceAt cX11_danceAt 3 (some .int) rm_danceAt [.ref (r 300), iv a] (gW E r shH t ++ W0) (qSm E r W0 v t2) := by
  refine k_of (by decide) (Nat.le_of_ble_eq_true rfl) ?_
  intro p e s m below meth c A X
  suffices hk : kP 0 0 p l e rm_danceAt s m [.ref (r 300), iv a].toArray below meth c E A 3 (MQ below ((qSm E r W0 v t2) A) [.ref (r 300), iv a].toArray s rm_danceAt.cells rm_danceAt.slots A) (gW E r shH t ++ W0) 0 [(0, .ref (r 300)), (1, iv a)] [] from hk
  refine k_aload_n X dX11_danceAt_0 0 rfl ?_
  refine k_getR X fH_X11_37_300 rfl dX11_danceAt_1 ?_
  refine k_iload_n X dX11_danceAt_4 1 rfl ?_
  refine k_aload_n X dX11_danceAt_5 0 rfl ?_
  refine k_getR X fH_X11_44_300 rfl dX11_danceAt_6 ?_
  refine k_aload_n X dX11_danceAt_9 0 rfl ?_
  refine k_getR X fH_X11_44_300 rfl dX11_danceAt_10 ?_
  refine k_hL (rest := [.ref (r 305), iv a, .ref (r 304)]) X (cp_X3_everybody l E r N 0 (by decide) t (ev, t) h1) yy_X3_everybody yi_X3_everybody wdM_RX11_173 ⟨_, _, oH_305⟩ rfl rfl rfl (Nat.le_of_ble_eq_true rfl) dX11_danceAt_13 ⟨by decide, by decide⟩ ⟨rfl, rfl⟩ ⟨by decide, by decide⟩ ?_
  refine k_hI (rest := []) X (cp_X1_attempt l E r N 0 (by decide) a ev t (v, t1) h2) yy_X1_attempt yi_X1_attempt wdM_RX11_217 ⟨_, _, oH_304⟩ rfl rfl rfl (Nat.le_of_ble_eq_true rfl) dX11_danceAt_16 ⟨by decide, by decide⟩ ⟨rfl, rfl⟩ ⟨by decide, by decide⟩ ?_
  refine k_istore_n (lv' := [(2, iv v), (0, .ref (r 300)), (1, iv a)]) X dX11_danceAt_19 rfl (by decide) rfl ?_
  refine k_iload_n X dX11_danceAt_20 0 rfl ?_
  refine k_if_eq (tgt := 30) X hv dX11_danceAt_21 (by decide) (fun h => absurd h hv0) (fun _ => ?_)
  refine k_aload_n X dX11_danceAt_24 1 rfl ?_
  refine k_hV (rest := []) X (cp_X11_noteFailure l E r N t1 t2 h3) yy_X11_noteFailure yi_X11_noteFailure wdM_RX11_192 ⟨_, _, oH_300⟩ rfl rfl rfl (Nat.le_of_ble_eq_true rfl) dX11_danceAt_25 ⟨by decide, by decide⟩ ⟨rfl, rfl⟩ ⟨by decide, by decide⟩ ?_
  refine k_iload_n X dX11_danceAt_28 0 rfl ?_
  exact k_iret X () rfl (List.Perm.refl _) dX11_danceAt_29 (by decide) (by decide)
/-- danceAt: the step is danced -/
theorem c_dance1 (l : Launch) (E : cE) (r : Nat → Nat) (N : Nat) (a : Int) (t μ : St) (ev : Int64) (t1 t2 t3 z : St) (B i : Nat) (len : Nat → Nat) (h1 : f_X3_everybody N 0 t = some (ev, t)) (h2 : f_X1_attempt N 0 a ev t = some (0, t1)) (hN : NTh N t1 μ B i len z) (h3 : f_X1_settle N 0 t1 = some t2) (h4 : f_X11_countStep N t2 = some t3) : cM l E yX11_danceAt cX11_danceAt 3 (some .int) rm_danceAt [.ref (r 300), iv a] (gW E r shH t ++ exL E r B len μ) (qDn E r len μ z B i (t1.1 300 11) (t1.1 300 12) 0 t3) := by
  refine k_of (by decide) (Nat.le_of_ble_eq_true rfl) ?_
  intro p e s m below meth c A X
  suffices hk : kP 0 0 p l e rm_danceAt s m [.ref (r 300), iv a].toArray below meth c E A 3 (MQ below ((qDn E r len μ z B i (t1.1 300 11) (t1.1 300 12) 0 t3) A) [.ref (r 300), iv a].toArray s rm_danceAt.cells rm_danceAt.slots A) (gW E r shH t ++ exL E r B len μ) 0 [(0, .ref (r 300)), (1, iv a)] [] from hk
  refine k_aload_n X dX11_danceAt_0 0 rfl ?_
  refine k_getR X fH_X11_37_300 rfl dX11_danceAt_1 ?_
  refine k_iload_n X dX11_danceAt_4 1 rfl ?_
  refine k_aload_n X dX11_danceAt_5 0 rfl ?_
  refine k_getR X fH_X11_44_300 rfl dX11_danceAt_6 ?_
  refine k_aload_n X dX11_danceAt_9 0 rfl ?_
  refine k_getR X fH_X11_44_300 rfl dX11_danceAt_10 ?_
  refine k_hL (rest := [.ref (r 305), iv a, .ref (r 304)]) X (cp_X3_everybody l E r N 0 (by decide) t (ev, t) h1) yy_X3_everybody yi_X3_everybody wdM_RX11_173 ⟨_, _, oH_305⟩ rfl rfl rfl (Nat.le_of_ble_eq_true rfl) dX11_danceAt_13 ⟨by decide, by decide⟩ ⟨rfl, rfl⟩ ⟨by decide, by decide⟩ ?_
  refine k_hI (rest := []) X (cp_X1_attempt l E r N 0 (by decide) a ev t (0, t1) h2) yy_X1_attempt yi_X1_attempt wdM_RX11_217 ⟨_, _, oH_304⟩ rfl rfl rfl (Nat.le_of_ble_eq_true rfl) dX11_danceAt_16 ⟨by decide, by decide⟩ ⟨rfl, rfl⟩ ⟨by decide, by decide⟩ ?_
  refine k_istore_n (lv' := [(2, iv 0), (0, .ref (r 300)), (1, iv a)]) X dX11_danceAt_19 rfl (by decide) rfl ?_
  refine k_iload_n X dX11_danceAt_20 0 rfl ?_
  refine k_if_eq (tgt := 30) X (a := 0) (by omega) dX11_danceAt_21 (by decide) (fun _ => ?_) (fun h => absurd rfl h)
  refine k_aload_n X dX11_danceAt_30 1 rfl ?_
  refine k_getR X fH_X11_66_300 rfl dX11_danceAt_31 ?_
  refine k_aload_n X dX11_danceAt_34 1 rfl ?_
  refine k_getR X fH_X11_44_300 rfl dX11_danceAt_35 ?_
  refine k_aload_n X dX11_danceAt_38 1 rfl ?_
  refine k_getR X fH_X11_56_300 rfl dX11_danceAt_39 ?_
  refine k_aload_n X dX11_danceAt_42 1 rfl ?_
  refine k_getI X fH_X11_158_300 rfl dX11_danceAt_43 ?_
  refine k_aload_n X dX11_danceAt_46 1 rfl ?_
  refine k_getI X fH_X11_161_300 rfl dX11_danceAt_47 ?_
  refine k_note X hN wdM_RX11_181 dX11_danceAt_50 ⟨by decide, by decide⟩ ⟨by decide, by decide⟩ rfl (fun u hu => ?_)
  have e300 : r 300 = u.1 300 := (hu.1 300 (by omega)).symm
  rw [show ([(2, iv 0), (0, .ref (r 300)), (1, iv a)] : List (Nat × Value)) = [(2, iv 0), (0, .ref (u.1 300)), (1, iv a)] by rw [e300]]
  refine k_aload_n X dX11_danceAt_53 1 rfl ?_
  refine k_getR X fH_X11_37_300 rfl dX11_danceAt_54 ?_
  refine k_aload_n X dX11_danceAt_57 1 rfl ?_
  refine k_getR X fH_X11_44_300 rfl dX11_danceAt_58 ?_
  refine k_hV (rest := []) X (cp_X1_settle l E u.1 N 0 (by decide) t1 t2 h3) yy_X1_settle yi_X1_settle wdM_RX11_289 ⟨_, _, oH_304⟩ rfl rfl rfl (Nat.le_of_ble_eq_true rfl) dX11_danceAt_61 ⟨by decide, by decide⟩ ⟨rfl, rfl⟩ ⟨by decide, by decide⟩ ?_
  refine k_aload_n X dX11_danceAt_64 1 rfl ?_
  refine k_hV (rest := []) X (cp_X11_countStep l E u.1 N t2 t3 h4) yy_X11_countStep yi_X11_countStep wdM_RX11_189 ⟨_, _, oH_300⟩ rfl rfl rfl (Nat.le_of_ble_eq_true rfl) dX11_danceAt_65 ⟨by decide, by decide⟩ ⟨rfl, rfl⟩ ⟨by decide, by decide⟩ ?_
  refine k_iconst X dX11_danceAt_68 ?_
  exact k_iret X u ⟨rfl, hu⟩ (List.Perm.refl _) dX11_danceAt_69 (by decide) (by decide)
abbrev rm_step : Room := { frames := 7, cells := 4, slots := 1576, locals := 198 }
/-- step: no part is under way -/
theorem c_step0 (l : Launch) (E : cE) (r : Nat → Nat) (W0 : va_W) (t : St) (h : t.1 307 2 = 0) : cM l E yX11_step cX11_step 2 (some .int) rm_step [.ref (r 300)] (gW E r shH t ++ W0) (qSm E r W0 (-1) t) := by
  refine k_of (by decide) (Nat.le_of_ble_eq_true rfl) ?_
  intro p e s m below meth c A X
  suffices hk : kP 0 0 p l e rm_step s m [.ref (r 300)].toArray below meth c E A 2 (MQ below ((qSm E r W0 (-1) t) A) [.ref (r 300)].toArray s rm_step.cells rm_step.slots A) (gW E r shH t ++ W0) 0 [(0, .ref (r 300))] [] from hk
  refine k_aload_n X dX11_step_0 0 rfl ?_
  refine k_getR X fH_X11_56_300 rfl dX11_step_1 ?_
  refine k_getI X fH_X11_151_307 rfl dX11_step_4 ?_
  rw [h]
  refine k_if_ne (tgt := 12) X (a := 0) (by omega) dX11_step_7 (by decide) (fun h => absurd rfl h) (fun _ => ?_)
  refine k_iconst X dX11_step_10 ?_
  exact k_iret X () rfl (List.Perm.refl _) dX11_step_11 (by decide) (by decide)
/-- step: the run goes on -/
def f_step2 (N : Nat) (t : St) : Option (Int × St) := bdI (f_X8_goOn N 0 0 t) fun v t2 => if v = 1 then (bdV (f_X11_countStep N t2) fun t3 => some (1, t3)) else (if v = 2 then (bdV (f_X11_noteFailure N (pI t2 307 2 0)) fun t3 => some (2, t3)) else some (v, pI t2 307 2 0))
theorem c_step1 (l : Launch) (E : cE) (r : Nat → Nat) (N : Nat) (t μ t2 t3 z : St) (v : Int) (B i : Nat) (len : Nat → Nat) (hv : inR v) (h : t.1 307 2 = 1) (hN : NTh N t μ B i len z) (h1 : f_X8_goOn N 0 0 t = some (v, t2)) (h2 : f_step2 N t = some (v, t3)) : cM l E yX11_step cX11_step 2 (some .int) rm_step [.ref (r 300)] (gW E r shH t ++ exL E r B len μ) (qDn E r len μ z B i (t.1 300 11) (t.1 300 12) v t3) := by
  refine k_of (by decide) (Nat.le_of_ble_eq_true rfl) ?_
  intro p e s m below meth c A X
  suffices hk : kP 0 0 p l e rm_step s m [.ref (r 300)].toArray below meth c E A 2 (MQ below ((qDn E r len μ z B i (t.1 300 11) (t.1 300 12) v t3) A) [.ref (r 300)].toArray s rm_step.cells rm_step.slots A) (gW E r shH t ++ exL E r B len μ) 0 [(0, .ref (r 300))] [] from hk
  refine k_aload_n X dX11_step_0 0 rfl ?_
  refine k_getR X fH_X11_56_300 rfl dX11_step_1 ?_
  refine k_getI X fH_X11_151_307 rfl dX11_step_4 ?_
  rw [h]
  refine k_if_ne (tgt := 12) X (a := 1) (by omega) dX11_step_7 (by decide) (fun _ => ?_) (fun h => absurd h (by decide))
  refine k_aload_n X dX11_step_12 0 rfl ?_
  refine k_getR X fH_X11_66_300 rfl dX11_step_13 ?_
  refine k_aload_n X dX11_step_16 0 rfl ?_
  refine k_getR X fH_X11_44_300 rfl dX11_step_17 ?_
  refine k_aload_n X dX11_step_20 0 rfl ?_
  refine k_getR X fH_X11_56_300 rfl dX11_step_21 ?_
  refine k_aload_n X dX11_step_24 0 rfl ?_
  refine k_getI X fH_X11_158_300 rfl dX11_step_25 ?_
  refine k_aload_n X dX11_step_28 0 rfl ?_
  refine k_getI X fH_X11_161_300 rfl dX11_step_29 ?_
  refine k_note X hN wdM_RX11_181 dX11_step_32 ⟨by decide, by decide⟩ ⟨by decide, by decide⟩ rfl (fun u hu => ?_)
  have e300 : r 300 = u.1 300 := (hu.1 300 (by omega)).symm
  rw [show ([(0, .ref (r 300))] : List (Nat × Value)) = [(0, .ref (u.1 300))] by rw [e300]]
  refine k_aload_n X dX11_step_35 0 rfl ?_
  refine k_getR X fH_X11_56_300 rfl dX11_step_36 ?_
  refine k_aload_n X dX11_step_39 0 rfl ?_
  refine k_getR X fH_X11_44_300 rfl dX11_step_40 ?_
  refine k_hI (rest := []) X (cp_X8_goOn l E u.1 N 0 (by decide) 0 (by decide) t (v, t2) h1) yy_X8_goOn yi_X8_goOn wdM_RX11_185 ⟨_, _, oH_307⟩ rfl rfl rfl (Nat.le_of_ble_eq_true rfl) dX11_step_43 ⟨by decide, by decide⟩ ⟨rfl, rfl⟩ ⟨by decide, by decide⟩ ?_
  refine k_istore_n (lv' := [(1, iv v), (0, .ref (u.1 300))]) X dX11_step_46 rfl (by decide) rfl ?_
  refine k_iload_n X dX11_step_47 0 rfl ?_
  refine k_iconst X dX11_step_48 ?_
  unfold f_step2 at h2
  rw [h1, bdI_s] at h2
  refine k_icmp_ne (tgt := 58) X hv (by omega) dX11_step_49 (by decide) (fun hv1 => ?_) (fun hv1 => ?_)
  · rw [if_neg hv1] at h2
    refine k_aload_n X dX11_step_58 1 rfl ?_
    refine k_getR X fH_X11_56_300 rfl dX11_step_59 ?_
    refine k_iconst X dX11_step_62 ?_
    refine k_putZ X (Or.inl rfl) fH_X11_151_307w rfl dX11_step_63 ?_
    refine k_iload_n X dX11_step_66 0 rfl ?_
    refine k_iconst X dX11_step_67 ?_
    refine k_icmp_ne (tgt := 75) X hv (by omega) dX11_step_68 (by decide) (fun hv2 => ?_) (fun hv2 => ?_)
    · rw [if_neg hv2] at h2
      cases h2
      refine k_iload_n X dX11_step_75 0 rfl ?_
      exact k_iret X u ⟨rfl, hu⟩ (List.Perm.refl _) dX11_step_76 (by decide) (by decide)
    · rw [if_pos hv2] at h2
      cases hf : f_X11_noteFailure N (pI t2 307 2 0) with
      | none => rw [hf] at h2; cases h2
      | some t4 =>
        rw [hf, bdV_s] at h2
        have h9 := (Prod.mk.inj (Option.some.inj h2)).2
        rw [← h9]
        refine k_aload_n X dX11_step_71 1 rfl ?_
        refine k_hV (rest := []) X (cp_X11_noteFailure l E u.1 N (pI t2 307 2 0) t4 hf) yy_X11_noteFailure yi_X11_noteFailure wdM_RX11_192 ⟨_, _, oH_300⟩ rfl rfl rfl (Nat.le_of_ble_eq_true rfl) dX11_step_72 ⟨by decide, by decide⟩ ⟨rfl, rfl⟩ ⟨by decide, by decide⟩ ?_
        refine k_iload_n X dX11_step_75 0 rfl ?_
        exact k_iret X u ⟨rfl, hu⟩ (List.Perm.refl _) dX11_step_76 (by decide) (by decide)
  · rw [if_pos hv1] at h2
    cases hf : f_X11_countStep N t2 with
    | none => rw [hf] at h2; cases h2
    | some t4 =>
      rw [hf, bdV_s] at h2
      have h9 := (Prod.mk.inj (Option.some.inj h2)).2
      rw [← h9]
      refine k_aload_n X dX11_step_52 1 rfl ?_
      refine k_hV (rest := []) X (cp_X11_countStep l E u.1 N t2 t4 hf) yy_X11_countStep yi_X11_countStep wdM_RX11_189 ⟨_, _, oH_300⟩ rfl rfl rfl (Nat.le_of_ble_eq_true rfl) dX11_step_53 ⟨by decide, by decide⟩ ⟨rfl, rfl⟩ ⟨by decide, by decide⟩ ?_
      refine k_iload_n X dX11_step_56 0 rfl ?_
      exact k_iret X u ⟨rfl, hu⟩ (List.Perm.refl _) dX11_step_57 (by decide) (by decide)
end KD
