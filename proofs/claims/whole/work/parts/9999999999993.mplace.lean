/-! more cells behind the hall's: a Moment -/
theorem ap_at {tab ex : List gS} {j : Nat} {q : gS} (h : tab[j]? = some q) : (tab ++ ex)[j]? = some q := by
  rw [List.getElem?_append_left (List.getElem?_eq_some_iff.mp h).1]
  exact h
theorem gF.ap {tab ex : List gS} {id f tag tg : Nat} {own : String} {idx : Nat} (h : gF tab id f tag tg own idx) : gF (tab ++ ex) id f tag tg own idx := by
  obtain ⟨j, ci, N, fs, C, ref, T, h1, h2⟩ := h
  exact ⟨j, ci, N, fs, C, ref, T, ap_at h1, h2⟩
theorem gFw.ap {tab ex : List gS} {id f tag tg : Nat} {own : String} {idx : Nat} {ty : FieldType} (hU : gU (tab ++ ex)) (h : gFw tab id f tag tg own idx ty) : gFw (tab ++ ex) id f tag tg own idx ty := by
  obtain ⟨j, ci, N, fs, C, ref, T, ty0, h1, h2, h3, h4, h5, h6, h7, h8, h9, h10, h11, _⟩ := h
  exact ⟨j, ci, N, fs, C, ref, T, ty0, ap_at h1, h2, h3, h4, h5, h6, h7, h8, h9, h10, h11, hU⟩
theorem gA.ap {tab ex : List gS} {id so n : Nat} (hU : gU (tab ++ ex)) (h : gA tab id so n) : gA (tab ++ ex) id so n := by
  obtain ⟨j, h1, _, h3⟩ := h
  exact ⟨j, ap_at h1, hU, h3⟩
theorem gO.ap {tab ex : List gS} {id ci : Nat} (h : gO tab id ci) : gO (tab ++ ex) id ci := by
  obtain ⟨j, fs, h1⟩ := h
  exact ⟨j, fs, ap_at h1⟩
set_option maxHeartbeats 4000000 in
set_option maxRecDepth 100000 in
theorem bx_f_X3_codeOf {p : Program} {l : Launch} {e : Env} {s : State} {m : MethodId} {args : Array Value} {below : List Frame} {meth : Method} {c : Code} {E : cE} {A : Nat → Prop} {r : Nat → Nat} {mc ms : Nat} {z : Int × St} {N : Nat} {ex : List gS} (hU : gU (shH ++ ex)) {a0 : Int} {a1 : Int} {a2 : Int} {t : St} (X : gX p s m meth c cX3_codeOf 3 (some .int) yX3_codeOf args E A) (h : f_X3_codeOf N a0 a1 a2 t = some z) : gP p l e rm_f_X3_codeOf s m args below meth c E A 3 (MQ below ((gqI E (gW E r (shH ++ ex)) z) A) args s mc ms A) (gW E r (shH ++ ex)) 0 [(0, iv a0), (1, iv a1), (2, iv a2)] [] t := by
  unfold f_X3_codeOf at h
  refine g_iload_n X dX3_codeOf_0 1 rfl ?_
  refine g_iconst X dX3_codeOf_1 ?_
  refine g_shl X 4 (by decide) (M := 16) (by decide) (by decide) dX3_codeOf_2 ?_
  refine g_iload_n X dX3_codeOf_3 0 rfl ?_
  refine g_iconst X dX3_codeOf_4 ?_
  refine g_shr X 2 (by decide) (M := 4) (by decide) (by decide) dX3_codeOf_5 h (fun h => ?_)
  refine g_iadd X dX3_codeOf_6 ?_
  refine g_iconst X dX3_codeOf_7 ?_
  refine g_shl X 2 (by decide) (M := 4) (by decide) (by decide) dX3_codeOf_8 ?_
  refine g_iload_n X dX3_codeOf_9 2 rfl ?_
  refine g_ior X dX3_codeOf_10 ?_
  exact g_iret X h dX3_codeOf_11
set_option maxHeartbeats 4000000 in
set_option maxRecDepth 100000 in
theorem cx_X3_codeOf (l : Launch) (E : cE) (r : Nat → Nat) (N : Nat) (ex : List gS) (hU : gU (shH ++ ex)) (a0 : Int) (a1 : Int) (a2 : Int) (t : St) (z : Int × St) (h : f_X3_codeOf N a0 a1 a2 t = some z) : cM l E yX3_codeOf cX3_codeOf 3 (some .int) rm_f_X3_codeOf [iv a0, iv a1, iv a2] (gW E r (shH ++ ex) t) (gqI E (gW E r (shH ++ ex)) z) := by
  refine g_of (w := gW E r (shH ++ ex)) (by decide) (Nat.le_of_ble_eq_true rfl) ?_
  intro p e s m below meth c A X
  exact g_sub (lv' := [(0, iv a0), (1, iv a1), (2, iv a2)]) [0, 1, 2] rfl (bx_f_X3_codeOf hU X h)
set_option maxHeartbeats 4000000 in
set_option maxRecDepth 100000 in
theorem bx_f_X3_codeAt {p : Program} {l : Launch} {e : Env} {s : State} {m : MethodId} {args : Array Value} {below : List Frame} {meth : Method} {c : Code} {E : cE} {A : Nat → Prop} {r : Nat → Nat} {mc ms : Nat} {z : Int × St} {N : Nat} {ex : List gS} (hU : gU (shH ++ ex)) {o0 : Nat} (ho0 : o0 < 2) {a0 : Int} {t : St} (X : gX p s m meth c cX3_codeAt 2 (some .int) yX3_codeAt args E A) (h : f_X3_codeAt N o0 a0 t = some z) : gP p l e rm_f_X3_codeAt s m args below meth c E A 2 (MQ below ((gqI E (gW E r (shH ++ ex)) z) A) args s mc ms A) (gW E r (shH ++ ex)) 0 [(0, .ref (r (305 + o0))), (1, iv a0)] [] t := by
  unfold f_X3_codeAt at h
  refine g_aload_n X dX3_codeAt_0 0 rfl ?_
  refine g_getR X (gF.ap (fH_X3_9_o (o := o0) ho0)) rfl dX3_codeAt_1 ?_
  refine g_iload_n X dX3_codeAt_4 1 rfl ?_
  refine g_iald X (gA.ap hU (aF_0 (o := o0) ho0)) dX3_codeAt_5 h (fun v1 h => ?_)
  refine g_aload_n X dX3_codeAt_6 0 rfl ?_
  refine g_getR X (gF.ap (fH_X3_15_o (o := o0) ho0)) rfl dX3_codeAt_7 ?_
  refine g_iload_n X dX3_codeAt_10 1 rfl ?_
  refine g_iald X (gA.ap hU (aF_1 (o := o0) ho0)) dX3_codeAt_11 h (fun v2 h => ?_)
  refine g_aload_n X dX3_codeAt_12 0 rfl ?_
  refine g_getR X (gF.ap (fH_X3_18_o (o := o0) ho0)) rfl dX3_codeAt_13 ?_
  refine g_iload_n X dX3_codeAt_16 1 rfl ?_
  refine g_iald X (gA.ap hU (aF_2 (o := o0) ho0)) dX3_codeAt_17 h (fun v3 h => ?_)
  refine g_callsI (rest := []) X (fun u9 h9 => cx_X3_codeOf l E r N ex hU v1 v2 v3 t u9 h9) yy_X3_codeOf wdT_X3_codeOf wdM_RX3_44 rfl rfl (Nat.le_of_ble_eq_true rfl) dX3_codeAt_18 ⟨by decide, by decide⟩ ⟨rfl, rfl⟩ h (fun v5 t4 h => ?_)
  exact g_iret X h dX3_codeAt_21
set_option maxHeartbeats 4000000 in
set_option maxRecDepth 100000 in
theorem cx_X3_codeAt (l : Launch) (E : cE) (r : Nat → Nat) (N : Nat) (ex : List gS) (hU : gU (shH ++ ex)) (o0 : Nat) (ho0 : o0 < 2) (a0 : Int) (t : St) (z : Int × St) (h : f_X3_codeAt N o0 a0 t = some z) : cM l E yX3_codeAt cX3_codeAt 2 (some .int) rm_f_X3_codeAt [.ref (r (305 + o0)), iv a0] (gW E r (shH ++ ex) t) (gqI E (gW E r (shH ++ ex)) z) := by
  refine g_of (w := gW E r (shH ++ ex)) (by decide) (Nat.le_of_ble_eq_true rfl) ?_
  intro p e s m below meth c A X
  exact g_sub (lv' := [(0, .ref (r (305 + o0))), (1, iv a0)]) [0, 1] rfl (bx_f_X3_codeAt hU ho0 X h)
set_option maxHeartbeats 4000000 in
set_option maxRecDepth 100000 in
theorem tx_f_J7_fill_d0a16_L6 {p : Program} {l : Launch} {e : Env} {s : State} {m : MethodId} {args : Array Value} {below : List Frame} {meth : Method} {c : Code} {E : cE} {A : Nat → Prop} {r : Nat → Nat} {mc ms : Nat} {z : St} {ex : List gS} (hU : gU (shH ++ ex)) {q0 n0 : Nat} (hq0 : gA (shH ++ ex) q0 2 n0) {K5 : (St → Option (St))} {y1 : Int64} {y3 : Int} (X : gX p s m meth c cJ7_fill_d0a16 5 none yJ7_fill_d0a16 args E A) (hK5 : ∀ (t9 : St), K5 t9 = some z → gP p l e rm_f_J7_fill_d0a16 s m args below meth c E A 5 (MQ below ((gqV E (gW E r (shH ++ ex)) z) A) args s mc ms A) (gW E r (shH ++ ex)) 22 [] [] t9) : ∀ (n9 : Nat) (x2 : Int) (t4 : St), f_J7_fill_d0a16_L6 q0 n0 K5 y1 y3 n9 x2 t4 = some z → gP p l e rm_f_J7_fill_d0a16 s m args below meth c E A 5 (MQ below ((gqV E (gW E r (shH ++ ex)) z) A) args s mc ms A) (gW E r (shH ++ ex)) 6 [(0, .ref (r q0)), (1, .long y1), (3, iv x2), (4, iv y3)] [] t4 := by
  intro n9
  induction n9 with
  | zero => intro x2 t4 h; cases h
  | succ n9 ih =>
    intro x2 t4 h
    unfold f_J7_fill_d0a16_L6 at h
    refine g_iload_n X dJ7_fill_d0a16_6 2 rfl ?_
    refine g_iload X dJ7_fill_d0a16_7 3 rfl ?_
    refine g_icmp_ge (tgt := 22) X dJ7_fill_d0a16_9 (by decide) h (fun h => ?_) (fun h => ?_)
    · exact g_sub (lv' := []) [] rfl (hK5 t4 h)
    · refine g_aload_n X dJ7_fill_d0a16_12 0 rfl ?_
      refine g_iload_n X dJ7_fill_d0a16_13 2 rfl ?_
      refine g_lload_n X dJ7_fill_d0a16_14 1 rfl ?_
      refine g_last X hq0 dJ7_fill_d0a16_15 h (fun t6 h => ?_)
      refine g_iinc (lv' := [(3, iv (x2 + 1)), (0, .ref (r q0)), (1, .long y1), (4, iv y3)]) X dJ7_fill_d0a16_16 (k := 2) rfl (by decide) rfl ?_
      refine g_goto (tgt := 6) X dJ7_fill_d0a16_19 (by decide) ?_
      exact g_sub (lv' := [(0, .ref (r q0)), (1, .long y1), (3, iv (x2 + 1)), (4, iv y3)]) [1, 2, 0, 3] rfl (ih (x2 + 1) t6 h)
set_option maxHeartbeats 4000000 in
set_option maxRecDepth 100000 in
theorem bx_f_J7_fill_d0a16 {p : Program} {l : Launch} {e : Env} {s : State} {m : MethodId} {args : Array Value} {below : List Frame} {meth : Method} {c : Code} {E : cE} {A : Nat → Prop} {r : Nat → Nat} {mc ms : Nat} {z : St} {N : Nat} {ex : List gS} (hU : gU (shH ++ ex)) {q0 n0 : Nat} (hq0 : gA (shH ++ ex) q0 2 n0) {a1 : Int64} {t : St} (X : gX p s m meth c cJ7_fill_d0a16 5 none yJ7_fill_d0a16 args E A) (h : f_J7_fill_d0a16 N q0 n0 a1 t = some z) : gP p l e rm_f_J7_fill_d0a16 s m args below meth c E A 5 (MQ below ((gqV E (gW E r (shH ++ ex)) z) A) args s mc ms A) (gW E r (shH ++ ex)) 0 [(0, .ref (r q0)), (1, .long a1)] [] t := by
  unfold f_J7_fill_d0a16 at h
  refine g_iconst X dJ7_fill_d0a16_0 ?_
  refine g_istore_n (lv' := [(3, iv 0), (0, .ref (r q0)), (1, .long a1)]) X dJ7_fill_d0a16_1 rfl (by decide) rfl ?_
  refine g_aload_n X dJ7_fill_d0a16_2 1 rfl ?_
  refine g_alen2 X hq0 dJ7_fill_d0a16_3 ?_
  refine g_istore (lv' := [(4, iv ((n0 : Nat) : Int)), (3, iv 0), (0, .ref (r q0)), (1, .long a1)]) X dJ7_fill_d0a16_4 (by decide) rfl ?_
  refine g_sub (lv' := [(0, .ref (r q0)), (1, .long a1), (3, iv 0), (4, iv ((n0 : Nat) : Int))]) [2, 3, 1, 0] rfl (tx_f_J7_fill_d0a16_L6 hU hq0 X (fun t7 h => ?_) N 0 t h)
  · exact g_vret X h dJ7_fill_d0a16_22
set_option maxHeartbeats 4000000 in
set_option maxRecDepth 100000 in
theorem cx_J7_fill_d0a16 (l : Launch) (E : cE) (r : Nat → Nat) (N : Nat) (ex : List gS) (hU : gU (shH ++ ex)) (q0 n0 : Nat) (hq0 : gA (shH ++ ex) q0 2 n0) (a1 : Int64) (t : St) (z : St) (h : f_J7_fill_d0a16 N q0 n0 a1 t = some z) : cM l E yJ7_fill_d0a16 cJ7_fill_d0a16 5 none rm_f_J7_fill_d0a16 [.ref (r q0), .long a1] (gW E r (shH ++ ex) t) (gqV E (gW E r (shH ++ ex)) z) := by
  refine g_of (w := gW E r (shH ++ ex)) (by decide) (Nat.le_of_ble_eq_true rfl) ?_
  intro p e s m below meth c A X
  exact g_sub (lv' := [(0, .ref (r q0)), (1, .long a1)]) [0, 1] rfl (bx_f_J7_fill_d0a16 hU hq0 X h)
set_option maxHeartbeats 4000000 in
set_option maxRecDepth 100000 in
theorem tx_f_X3_sort_L20 {p : Program} {l : Launch} {e : Env} {s : State} {m : MethodId} {args : Array Value} {below : List Frame} {meth : Method} {c : Code} {E : cE} {A : Nat → Prop} {r : Nat → Nat} {mc ms : Nat} {z : St} {ex : List gS} (hU : gU (shH ++ ex)) {o0 : Nat} (ho0 : o0 < 2) {N : Nat} {K11 : (Int → St → Option (St))} {y7 : Int} {y8 : Int} (X : gX p s m meth c cX3_sort 4 none yX3_sort args E A) (hK11 : ∀ (q3 : Int) (t9 : St), K11 q3 t9 = some z → gP p l e rm_f_X3_sort s m args below meth c E A 4 (MQ below ((gqV E (gW E r (shH ++ ex)) z) A) args s mc ms A) (gW E r (shH ++ ex)) 62 [(0, .ref (r (305 + o0))), (1, iv y7), (3, iv q3)] [] t9) : ∀ (n9 : Nat) (x9 : Int) (t10 : St), f_X3_sort_L20 N o0 K11 y8 n9 x9 t10 = some z → gP p l e rm_f_X3_sort s m args below meth c E A 4 (MQ below ((gqV E (gW E r (shH ++ ex)) z) A) args s mc ms A) (gW E r (shH ++ ex)) 20 [(0, .ref (r (305 + o0))), (1, iv y7), (2, iv y8), (3, iv x9)] [] t10 := by
  intro n9
  induction n9 with
  | zero => intro x9 t10 h; cases h
  | succ n9 ih =>
    intro x9 t10 h
    unfold f_X3_sort_L20 at h
    refine g_iload_n X dX3_sort_20 3 rfl ?_
    refine g_if_le (tgt := 62) X dX3_sort_21 (by decide) h (fun h => ?_) (fun h => ?_)
    · exact g_sub (lv' := [(0, .ref (r (305 + o0))), (1, iv y7), (3, iv x9)]) [0, 1, 3] rfl (hK11 x9 t10 h)
    · refine g_aload_n X dX3_sort_24 0 rfl ?_
      refine g_aload_n X dX3_sort_25 0 rfl ?_
      refine g_getR X (gF.ap (fH_X3_27_o (o := o0) ho0)) rfl dX3_sort_26 ?_
      refine g_iload_n X dX3_sort_29 3 rfl ?_
      refine g_iconst X dX3_sort_30 ?_
      refine g_isub X dX3_sort_31 ?_
      refine g_iald X (gA.ap hU (aF_5 (o := o0) ho0)) dX3_sort_32 h (fun v12 h => ?_)
      refine g_callOI (rest := []) X (fun u9 h9 => cx_X3_codeAt l E r N ex hU o0 ho0 v12 t10 u9 h9) yy_X3_codeAt yi_X3_codeAt wdM_RX3_65 (gO.ap (oX3 (o := o0) ho0)) rfl rfl rfl (Nat.le_of_ble_eq_true rfl) dX3_sort_33 ⟨by decide, by decide⟩ ⟨rfl, rfl⟩ h (fun v14 t13 h => ?_)
      refine g_iconst X dX3_sort_36 ?_
      refine g_shr X 2 (by decide) (M := 4) (by decide) (by decide) dX3_sort_37 h (fun h => ?_)
      refine g_iload_n X dX3_sort_38 2 rfl ?_
      refine g_icmp_le (tgt := 62) X dX3_sort_39 (by decide) h (fun h => ?_) (fun h => ?_)
      · exact g_sub (lv' := [(0, .ref (r (305 + o0))), (1, iv y7), (3, iv x9)]) [0, 1, 3] rfl (hK11 x9 t13 h)
      · refine g_aload_n X dX3_sort_42 0 rfl ?_
        refine g_getR X (gF.ap (fH_X3_27_o (o := o0) ho0)) rfl dX3_sort_43 ?_
        refine g_iload_n X dX3_sort_46 3 rfl ?_
        refine g_aload_n X dX3_sort_47 0 rfl ?_
        refine g_getR X (gF.ap (fH_X3_27_o (o := o0) ho0)) rfl dX3_sort_48 ?_
        refine g_iload_n X dX3_sort_51 3 rfl ?_
        refine g_iconst X dX3_sort_52 ?_
        refine g_isub X dX3_sort_53 ?_
        refine g_iald X (gA.ap hU (aF_5 (o := o0) ho0)) dX3_sort_54 h (fun v15 h => ?_)
        refine g_iast X (gA.ap hU (aF_5 (o := o0) ho0)) dX3_sort_55 h (fun t16 h => ?_)
        refine g_iinc (lv' := [(3, iv (x9 + (-1))), (0, .ref (r (305 + o0))), (1, iv y7), (2, iv y8)]) X dX3_sort_56 (k := 3) rfl (by decide) rfl ?_
        refine g_goto (tgt := 20) X dX3_sort_59 (by decide) ?_
        exact g_sub (lv' := [(0, .ref (r (305 + o0))), (1, iv y7), (2, iv y8), (3, iv (x9 + (-1)))]) [1, 2, 3, 0] rfl (ih (x9 + (-1)) t16 h)
set_option maxHeartbeats 4000000 in
set_option maxRecDepth 100000 in
theorem tx_f_X3_sort_L2 {p : Program} {l : Launch} {e : Env} {s : State} {m : MethodId} {args : Array Value} {below : List Frame} {meth : Method} {c : Code} {E : cE} {A : Nat → Prop} {r : Nat → Nat} {mc ms : Nat} {z : St} {ex : List gS} (hU : gU (shH ++ ex)) {o0 : Nat} (ho0 : o0 < 2) {N : Nat} {K3 : (St → Option (St))} (X : gX p s m meth c cX3_sort 4 none yX3_sort args E A) (hK3 : ∀ (t9 : St), K3 t9 = some z → gP p l e rm_f_X3_sort s m args below meth c E A 4 (MQ below ((gqV E (gW E r (shH ++ ex)) z) A) args s mc ms A) (gW E r (shH ++ ex)) 75 [] [] t9) : ∀ (n9 : Nat) (x1 : Int) (t2 : St), f_X3_sort_L2 N o0 K3 n9 x1 t2 = some z → gP p l e rm_f_X3_sort s m args below meth c E A 4 (MQ below ((gqV E (gW E r (shH ++ ex)) z) A) args s mc ms A) (gW E r (shH ++ ex)) 2 [(0, .ref (r (305 + o0))), (1, iv x1)] [] t2 := by
  intro n9
  induction n9 with
  | zero => intro x1 t2 h; cases h
  | succ n9 ih =>
    intro x1 t2 h
    unfold f_X3_sort_L2 at h
    refine g_iload_n X dX3_sort_2 1 rfl ?_
    refine g_aload_n X dX3_sort_3 0 rfl ?_
    refine g_getI X (gF.ap (fH_X3_61_o (o := o0) ho0)) rfl dX3_sort_4 h (fun v4 h => ?_)
    refine g_icmp_ge (tgt := 75) X dX3_sort_7 (by decide) h (fun h => ?_) (fun h => ?_)
    · exact g_sub (lv' := []) [] rfl (hK3 t2 h)
    · refine g_aload_n X dX3_sort_10 0 rfl ?_
      refine g_iload_n X dX3_sort_11 1 rfl ?_
      refine g_callOI (rest := []) X (fun u9 h9 => cx_X3_codeAt l E r N ex hU o0 ho0 x1 t2 u9 h9) yy_X3_codeAt yi_X3_codeAt wdM_RX3_65 (gO.ap (oX3 (o := o0) ho0)) rfl rfl rfl (Nat.le_of_ble_eq_true rfl) dX3_sort_12 ⟨by decide, by decide⟩ ⟨rfl, rfl⟩ h (fun v6 t5 h => ?_)
      refine g_iconst X dX3_sort_15 ?_
      refine g_shr X 2 (by decide) (M := 4) (by decide) (by decide) dX3_sort_16 h (fun h => ?_)
      refine g_istore_n (lv' := [(2, iv (v6 / 4)), (0, .ref (r (305 + o0))), (1, iv x1)]) X dX3_sort_17 rfl (by decide) rfl ?_
      refine g_iload_n X dX3_sort_18 2 rfl ?_
      refine g_istore_n (lv' := [(3, iv x1), (2, iv (v6 / 4)), (0, .ref (r (305 + o0))), (1, iv x1)]) X dX3_sort_19 rfl (by decide) rfl ?_
      refine g_sub (lv' := [(0, .ref (r (305 + o0))), (1, iv x1), (2, iv (v6 / 4)), (3, iv x1)]) [2, 3, 1, 0] rfl (tx_f_X3_sort_L20 hU ho0 X (fun k17 t18 h => ?_) N x1 t5 h)
      · refine g_aload_n X dX3_sort_62 0 rfl ?_
        refine g_getR X (gF.ap (fH_X3_27_o (o := o0) ho0)) rfl dX3_sort_63 ?_
        refine g_iload_n X dX3_sort_66 2 rfl ?_
        refine g_iload_n X dX3_sort_67 1 rfl ?_
        refine g_iast X (gA.ap hU (aF_5 (o := o0) ho0)) dX3_sort_68 h (fun t19 h => ?_)
        refine g_iinc (lv' := [(1, iv (x1 + 1)), (0, .ref (r (305 + o0))), (3, iv k17)]) X dX3_sort_69 (k := 1) rfl (by decide) rfl ?_
        refine g_goto (tgt := 2) X dX3_sort_72 (by decide) ?_
        exact g_sub (lv' := [(0, .ref (r (305 + o0))), (1, iv (x1 + 1))]) [1, 0] rfl (ih (x1 + 1) t19 h)
set_option maxHeartbeats 4000000 in
set_option maxRecDepth 100000 in
theorem bx_f_X3_sort {p : Program} {l : Launch} {e : Env} {s : State} {m : MethodId} {args : Array Value} {below : List Frame} {meth : Method} {c : Code} {E : cE} {A : Nat → Prop} {r : Nat → Nat} {mc ms : Nat} {z : St} {N : Nat} {ex : List gS} (hU : gU (shH ++ ex)) {o0 : Nat} (ho0 : o0 < 2) {t : St} (X : gX p s m meth c cX3_sort 4 none yX3_sort args E A) (h : f_X3_sort N o0 t = some z) : gP p l e rm_f_X3_sort s m args below meth c E A 4 (MQ below ((gqV E (gW E r (shH ++ ex)) z) A) args s mc ms A) (gW E r (shH ++ ex)) 0 [(0, .ref (r (305 + o0)))] [] t := by
  unfold f_X3_sort at h
  refine g_iconst X dX3_sort_0 ?_
  refine g_istore_n (lv' := [(1, iv 0), (0, .ref (r (305 + o0)))]) X dX3_sort_1 rfl (by decide) rfl ?_
  refine g_sub (lv' := [(0, .ref (r (305 + o0))), (1, iv 0)]) [1, 0] rfl (tx_f_X3_sort_L2 hU ho0 X (fun t20 h => ?_) N 0 t h)
  · exact g_vret X h dX3_sort_75
set_option maxHeartbeats 4000000 in
set_option maxRecDepth 100000 in
theorem cx_X3_sort (l : Launch) (E : cE) (r : Nat → Nat) (N : Nat) (ex : List gS) (hU : gU (shH ++ ex)) (o0 : Nat) (ho0 : o0 < 2) (t : St) (z : St) (h : f_X3_sort N o0 t = some z) : cM l E yX3_sort cX3_sort 4 none rm_f_X3_sort [.ref (r (305 + o0))] (gW E r (shH ++ ex) t) (gqV E (gW E r (shH ++ ex)) z) := by
  refine g_of (w := gW E r (shH ++ ex)) (by decide) (Nat.le_of_ble_eq_true rfl) ?_
  intro p e s m below meth c A X
  exact g_sub (lv' := [(0, .ref (r (305 + o0)))]) [0] rfl (bx_f_X3_sort hU ho0 X h)
set_option maxHeartbeats 4000000 in
set_option maxRecDepth 100000 in
theorem tx_f_X3_place_L2 {p : Program} {l : Launch} {e : Env} {s : State} {m : MethodId} {args : Array Value} {below : List Frame} {meth : Method} {c : Code} {E : cE} {A : Nat → Prop} {r : Nat → Nat} {mc ms : Nat} {z : St} {ex : List gS} (hU : gU (shH ++ ex)) {o0 : Nat} (ho0 : o0 < 2) {q0 n0 : Nat} (hq0 : gA (shH ++ ex) q0 1 n0) {N : Nat} {K4 : (St → Option (St))} {y1 : Int} (X : gX p s m meth c cX3_place 5 none yX3_place args E A) (hK4 : ∀ (t9 : St), K4 t9 = some z → gP p l e rm_f_X3_place s m args below meth c E A 5 (MQ below ((gqV E (gW E r (shH ++ ex)) z) A) args s mc ms A) (gW E r (shH ++ ex)) 29 [(0, .ref (r (305 + o0))), (1, .ref (r q0)), (2, iv y1)] [] t9) : ∀ (n9 : Nat) (x2 : Int) (t3 : St), f_X3_place_L2 N o0 K4 n9 x2 t3 = some z → gP p l e rm_f_X3_place s m args below meth c E A 5 (MQ below ((gqV E (gW E r (shH ++ ex)) z) A) args s mc ms A) (gW E r (shH ++ ex)) 2 [(0, .ref (r (305 + o0))), (1, .ref (r q0)), (2, iv y1), (3, iv x2)] [] t3 := by
  intro n9
  induction n9 with
  | zero => intro x2 t3 h; cases h
  | succ n9 ih =>
    intro x2 t3 h
    unfold f_X3_place_L2 at h
    refine g_iload_n X dX3_place_2 3 rfl ?_
    refine g_aload_n X dX3_place_3 0 rfl ?_
    refine g_getI X (gF.ap (fH_X3_61_o (o := o0) ho0)) rfl dX3_place_4 h (fun v5 h => ?_)
    refine g_icmp_ge (tgt := 29) X dX3_place_7 (by decide) h (fun h => ?_) (fun h => ?_)
    · exact g_sub (lv' := [(0, .ref (r (305 + o0))), (1, .ref (r q0)), (2, iv y1)]) [0, 1, 2] rfl (hK4 t3 h)
    · refine g_aload_n X dX3_place_10 0 rfl ?_
      refine g_getR X (gF.ap (fH_X3_34_o (o := o0) ho0)) rfl dX3_place_11 ?_
      refine g_aload_n X dX3_place_14 0 rfl ?_
      refine g_iload_n X dX3_place_15 3 rfl ?_
      refine g_callOI (rest := [.ref (r (397 + 10 * o0))]) X (fun u9 h9 => cx_X3_codeAt l E r N ex hU o0 ho0 x2 t3 u9 h9) yy_X3_codeAt yi_X3_codeAt wdM_RX3_65 (gO.ap (oX3 (o := o0) ho0)) rfl rfl rfl (Nat.le_of_ble_eq_true rfl) dX3_place_16 ⟨by decide, by decide⟩ ⟨rfl, rfl⟩ h (fun v7 t6 h => ?_)
      refine g_iconst X dX3_place_19 ?_
      refine g_shr X 2 (by decide) (M := 4) (by decide) (by decide) dX3_place_20 h (fun h => ?_)
      refine g_iconst X dX3_place_21 ?_
      refine g_bast X (gA.ap hU (aF_7 (o := o0) ho0)) dX3_place_22 h (fun t8 h => ?_)
      refine g_iinc (lv' := [(3, iv (x2 + 1)), (0, .ref (r (305 + o0))), (1, .ref (r q0)), (2, iv y1)]) X dX3_place_23 (k := 3) rfl (by decide) rfl ?_
      refine g_goto (tgt := 2) X dX3_place_26 (by decide) ?_
      exact g_sub (lv' := [(0, .ref (r (305 + o0))), (1, .ref (r q0)), (2, iv y1), (3, iv (x2 + 1))]) [1, 2, 3, 0] rfl (ih (x2 + 1) t8 h)
set_option maxHeartbeats 4000000 in
set_option maxRecDepth 100000 in
theorem tx_f_X3_place_L54 {p : Program} {l : Launch} {e : Env} {s : State} {m : MethodId} {args : Array Value} {below : List Frame} {meth : Method} {c : Code} {E : cE} {A : Nat → Prop} {r : Nat → Nat} {mc ms : Nat} {z : St} {ex : List gS} (hU : gU (shH ++ ex)) {o0 : Nat} (ho0 : o0 < 2) {q0 n0 : Nat} (hq0 : gA (shH ++ ex) q0 1 n0) {K14 : (St → Option (St))} (X : gX p s m meth c cX3_place 5 none yX3_place args E A) (hK14 : ∀ (t9 : St), K14 t9 = some z → gP p l e rm_f_X3_place s m args below meth c E A 5 (MQ below ((gqV E (gW E r (shH ++ ex)) z) A) args s mc ms A) (gW E r (shH ++ ex)) 144 [(0, .ref (r (305 + o0)))] [] t9) : ∀ (n9 : Nat) (x12 : Int) (t13 : St), f_X3_place_L54 o0 q0 n0 K14 n9 x12 t13 = some z → gP p l e rm_f_X3_place s m args below meth c E A 5 (MQ below ((gqV E (gW E r (shH ++ ex)) z) A) args s mc ms A) (gW E r (shH ++ ex)) 54 [(0, .ref (r (305 + o0))), (1, .ref (r q0)), (3, iv x12)] [] t13 := by
  intro n9
  induction n9 with
  | zero => intro x12 t13 h; cases h
  | succ n9 ih =>
    intro x12 t13 h
    unfold f_X3_place_L54 at h
    refine g_iload_n X dX3_place_54 2 rfl ?_
    refine g_aload_n X dX3_place_55 0 rfl ?_
    refine g_getI X (gF.ap (fH_X3_61_o (o := o0) ho0)) rfl dX3_place_56 h (fun v15 h => ?_)
    refine g_icmp_ge (tgt := 144) X dX3_place_59 (by decide) h (fun h => ?_) (fun h => ?_)
    · exact g_sub (lv' := [(0, .ref (r (305 + o0)))]) [0] rfl (hK14 t13 h)
    · refine g_aload_n X dX3_place_62 1 rfl ?_
      refine g_iload_n X dX3_place_63 2 rfl ?_
      refine g_iald X hq0 dX3_place_64 h (fun v16 h => ?_)
      refine g_iconst X dX3_place_65 ?_
      refine g_shr X 2 (by decide) (M := 4) (by decide) (by decide) dX3_place_66 h (fun h => ?_)
      refine g_sipush X dX3_place_67 (by decide) ?_
      refine g_mask X 12 (by decide) (M := 4096) (by decide) (by decide) dX3_place_70 ?_
      refine g_istore (lv' := [(4, iv ((v16 / 4) % 4096)), (0, .ref (r (305 + o0))), (1, .ref (r q0)), (3, iv x12)]) X dX3_place_71 (by decide) rfl ?_
      refine g_aload_n X dX3_place_73 1 rfl ?_
      refine g_getR X (gF.ap (fH_X3_9_o (o := o0) ho0)) rfl dX3_place_74 ?_
      refine g_iload_n X dX3_place_77 3 rfl ?_
      refine g_iload X dX3_place_78 0 rfl ?_
      refine g_bipush X dX3_place_80 (by decide) ?_
      refine g_mask X 6 (by decide) (M := 64) (by decide) (by decide) dX3_place_82 ?_
      refine g_iconst X dX3_place_83 ?_
      refine g_shl X 2 (by decide) (M := 4) (by decide) (by decide) dX3_place_84 ?_
      refine g_iast X (gA.ap hU (aF_0 (o := o0) ho0)) dX3_place_85 h (fun t17 h => ?_)
      refine g_aload_n X dX3_place_86 1 rfl ?_
      refine g_getR X (gF.ap (fH_X3_15_o (o := o0) ho0)) rfl dX3_place_87 ?_
      refine g_iload_n X dX3_place_90 3 rfl ?_
      refine g_iload X dX3_place_91 0 rfl ?_
      refine g_bipush X dX3_place_93 (by decide) ?_
      refine g_shr X 6 (by decide) (M := 64) (by decide) (by decide) dX3_place_95 h (fun h => ?_)
      refine g_iconst X dX3_place_96 ?_
      refine g_shl X 2 (by decide) (M := 4) (by decide) (by decide) dX3_place_97 ?_
      refine g_iast X (gA.ap hU (aF_1 (o := o0) ho0)) dX3_place_98 h (fun t18 h => ?_)
      refine g_aload_n X dX3_place_99 1 rfl ?_
      refine g_getR X (gF.ap (fH_X3_18_o (o := o0) ho0)) rfl dX3_place_100 ?_
      refine g_iload_n X dX3_place_103 3 rfl ?_
      refine g_aload_n X dX3_place_104 2 rfl ?_
      refine g_iload_n X dX3_place_105 3 rfl ?_
      refine g_iald X hq0 dX3_place_106 h (fun v19 h => ?_)
      refine g_iconst X dX3_place_107 ?_
      refine g_mask X 2 (by decide) (M := 4) (by decide) (by decide) dX3_place_108 ?_
      refine g_iast X (gA.ap hU (aF_2 (o := o0) ho0)) dX3_place_109 h (fun t20 h => ?_)
      refine g_aload_n X dX3_place_110 1 rfl ?_
      refine g_getR X (gF.ap (fH_X3_30_o (o := o0) ho0)) rfl dX3_place_111 ?_
      refine g_aload_n X dX3_place_114 1 rfl ?_
      refine g_getR X (gF.ap (fH_X3_18_o (o := o0) ho0)) rfl dX3_place_115 ?_
      refine g_iload_n X dX3_place_118 3 rfl ?_
      refine g_iald X (gA.ap hU (aF_2 (o := o0) ho0)) dX3_place_119 h (fun v21 h => ?_)
      refine g_dup2 X rfl rfl dX3_place_120 ?_
      refine g_lald X (gA.ap hU (aF_6 (o := o0) ho0)) dX3_place_121 h (fun v22 h => ?_)
      refine g_lconst (v := 1) X dX3_place_122 (by decide) ?_
      refine g_iload_n X dX3_place_123 3 rfl ?_
      refine g_lshl X dX3_place_124 ?_
      refine g_lor X dX3_place_125 ?_
      refine g_last X (gA.ap hU (aF_6 (o := o0) ho0)) dX3_place_126 h (fun t23 h => ?_)
      refine g_aload_n X dX3_place_127 1 rfl ?_
      refine g_getR X (gF.ap (fH_X3_34_o (o := o0) ho0)) rfl dX3_place_128 ?_
      refine g_iload X dX3_place_131 0 rfl ?_
      refine g_iload_n X dX3_place_133 3 rfl ?_
      refine g_iconst X dX3_place_134 ?_
      refine g_iadd X dX3_place_135 ?_
      refine g_i2b X dX3_place_136 ?_
      refine g_bast X (gA.ap hU (aF_7 (o := o0) ho0)) dX3_place_137 h (fun t24 h => ?_)
      refine g_iinc (lv' := [(3, iv (x12 + 1)), (4, iv ((v16 / 4) % 4096)), (0, .ref (r (305 + o0))), (1, .ref (r q0))]) X dX3_place_138 (k := 3) rfl (by decide) rfl ?_
      refine g_goto (tgt := 54) X dX3_place_141 (by decide) ?_
      exact g_sub (lv' := [(0, .ref (r (305 + o0))), (1, .ref (r q0)), (3, iv (x12 + 1))]) [2, 3, 0] rfl (ih (x12 + 1) t24 h)
set_option maxHeartbeats 4000000 in
set_option maxRecDepth 100000 in
theorem bx_f_X3_place {p : Program} {l : Launch} {e : Env} {s : State} {m : MethodId} {args : Array Value} {below : List Frame} {meth : Method} {c : Code} {E : cE} {A : Nat → Prop} {r : Nat → Nat} {mc ms : Nat} {z : St} {N : Nat} {ex : List gS} (hU : gU (shH ++ ex)) {o0 : Nat} (ho0 : o0 < 2) {q0 n0 : Nat} (hq0 : gA (shH ++ ex) q0 1 n0) {a1 : Int} {t : St} (X : gX p s m meth c cX3_place 5 none yX3_place args E A) (h : f_X3_place N o0 q0 n0 a1 t = some z) : gP p l e rm_f_X3_place s m args below meth c E A 5 (MQ below ((gqV E (gW E r (shH ++ ex)) z) A) args s mc ms A) (gW E r (shH ++ ex)) 0 [(0, .ref (r (305 + o0))), (1, .ref (r q0)), (2, iv a1)] [] t := by
  unfold f_X3_place at h
  refine g_iconst X dX3_place_0 ?_
  refine g_istore_n (lv' := [(3, iv 0), (0, .ref (r (305 + o0))), (1, .ref (r q0)), (2, iv a1)]) X dX3_place_1 rfl (by decide) rfl ?_
  refine g_sub (lv' := [(0, .ref (r (305 + o0))), (1, .ref (r q0)), (2, iv a1), (3, iv 0)]) [1, 2, 3, 0] rfl (tx_f_X3_place_L2 hU ho0 hq0 X (fun t9 h => ?_) N 0 t h)
  · refine g_aload_n X dX3_place_29 0 rfl ?_
    refine g_iload_n X dX3_place_30 2 rfl ?_
    refine g_aload_n X dX3_place_31 1 rfl ?_
    refine g_alen1 X hq0 dX3_place_32 ?_
    refine g_bipush X dX3_place_33 (by decide) ?_
    refine g_mmin X wdM_RX3_48 (by decide) (Nat.le_of_ble_eq_true rfl) dX3_place_35 h (fun h => ?_)
    refine g_mmin X wdM_RX3_48 (by decide) (Nat.le_of_ble_eq_true rfl) dX3_place_38 h (fun h => ?_)
    refine g_putI X (gFw.ap hU (fH_X3_61_ow (o := o0) ho0)) rfl dX3_place_41 h (fun t10 h => ?_)
    refine g_aload_n X dX3_place_44 0 rfl ?_
    refine g_getR X (gF.ap (fH_X3_30_o (o := o0) ho0)) rfl dX3_place_45 ?_
    refine g_lconst (v := 0) X dX3_place_48 (by decide) ?_
    refine g_callsV (rest := []) X (fun u9 h9 => cx_J7_fill_d0a16 l E r N ex hU (396 + 10 * o0) 4 (gA.ap hU (aF_6 (o := o0) ho0)) (0 : Int64) t10 u9 h9) yy_J7_fill_d0a16 wdT_J7_fill_d0a16 wdM_RX3_69 rfl rfl (Nat.le_of_ble_eq_true rfl) dX3_place_49 ⟨by decide, by decide⟩ ⟨rfl, rfl⟩ h (fun t11 h => ?_)
    refine g_iconst X dX3_place_52 ?_
    refine g_istore_n (lv' := [(3, iv 0), (0, .ref (r (305 + o0))), (1, .ref (r q0)), (2, iv a1)]) X dX3_place_53 rfl (by decide) rfl ?_
    refine g_sub (lv' := [(0, .ref (r (305 + o0))), (1, .ref (r q0)), (3, iv 0)]) [1, 2, 0] rfl (tx_f_X3_place_L54 hU ho0 hq0 X (fun t25 h => ?_) N 0 t11 h)
    · refine g_aload_n X dX3_place_144 0 rfl ?_
      refine g_callOV (rest := []) X (fun u9 h9 => cx_X3_sort l E r N ex hU o0 ho0 t25 u9 h9) yy_X3_sort yi_X3_sort wdM_RX3_75 (gO.ap (oX3 (o := o0) ho0)) rfl rfl rfl (Nat.le_of_ble_eq_true rfl) dX3_place_145 ⟨by decide, by decide⟩ ⟨rfl, rfl⟩ h (fun t26 h => ?_)
      refine g_aload_n X dX3_place_148 0 rfl ?_
      refine g_dup X rfl dX3_place_149 ?_
      refine g_getI X (gF.ap (fH_X3_78_o (o := o0) ho0)) rfl dX3_place_150 h (fun v27 h => ?_)
      refine g_iconst X dX3_place_153 ?_
      refine g_iadd X dX3_place_154 ?_
      refine g_putI X (gFw.ap hU (fH_X3_78_ow (o := o0) ho0)) rfl dX3_place_155 h (fun t28 h => ?_)
      exact g_vret X h dX3_place_158
set_option maxHeartbeats 4000000 in
set_option maxRecDepth 100000 in
theorem cx_X3_place (l : Launch) (E : cE) (r : Nat → Nat) (N : Nat) (ex : List gS) (hU : gU (shH ++ ex)) (o0 : Nat) (ho0 : o0 < 2) (q0 n0 : Nat) (hq0 : gA (shH ++ ex) q0 1 n0) (a1 : Int) (t : St) (z : St) (h : f_X3_place N o0 q0 n0 a1 t = some z) : cM l E yX3_place cX3_place 5 none rm_f_X3_place [.ref (r (305 + o0)), .ref (r q0), iv a1] (gW E r (shH ++ ex) t) (gqV E (gW E r (shH ++ ex)) z) := by
  refine g_of (w := gW E r (shH ++ ex)) (by decide) (Nat.le_of_ble_eq_true rfl) ?_
  intro p e s m below meth c A X
  exact g_sub (lv' := [(0, .ref (r (305 + o0))), (1, .ref (r q0)), (2, iv a1)]) [0, 1, 2] rfl (bx_f_X3_place hU ho0 hq0 X h)
