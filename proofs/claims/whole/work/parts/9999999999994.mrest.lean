/-- a Moment's cells -/
def mF5 : List (Nat × Nat) := [(1, 1300), (0, 0), (0, 0), (2, 0), (1, 1600), (0, 0), (0, 0), (0, 0)]
def EX5 (n : Nat) (ex : List gS) : Prop := ex = [(1000, 9, 5, mF5), (1300, 1, 64, []), (1600, 2, n, [])] ∧ n ≤ 1500
theorem oX_at {n : Nat} {ex : List gS} (h : EX5 n ex) : (shH ++ ex)[81]? = some (1000, 9, 5, mF5) := by rw [h.1]; rfl
theorem oX_5 {n : Nat} {ex : List gS} (h : EX5 n ex) : gO (shH ++ ex) 1000 5 := ⟨_, _, oX_at h⟩
theorem aX_1300 {n : Nat} {ex : List gS} (hU : gU (shH ++ ex)) (h : EX5 n ex) : gA (shH ++ ex) 1300 1 64 := ⟨82, by rw [h.1]; rfl, hU, by decide⟩
theorem aX_1600 {n : Nat} {ex : List gS} (hU : gU (shH ++ ex)) (h : EX5 n ex) : gA (shH ++ ex) 1600 2 n := ⟨83, by rw [h.1]; rfl, hU, by have := h.2; omega⟩
theorem fX_X11_206 {n : Nat} {ex : List gS} (h : EX5 n ex) : gF (shH ++ ex) 1000 6 0 0 RX11 206 := ⟨81, 5, 8, mF5, RX5, RX5, TX5, oX_at h, rfl, rfl, by decide, iX5, wdF_RX11_206, rfl⟩
theorem fX_X11_206w {n : Nat} {ex : List gS} (hU : gU (shH ++ ex)) (h : EX5 n ex) : gFw (shH ++ ex) 1000 6 0 0 RX11 206 .int := ⟨81, 5, 8, mF5, RX5, RX5, TX5, tyX5, oX_at h, rfl, rfl, by decide, iX5, wdF_RX11_206, rfl, tyX5_ok, nmX5, rfl, by decide +kernel, hU⟩
theorem fX_X11_207 {n : Nat} {ex : List gS} (h : EX5 n ex) : gF (shH ++ ex) 1000 7 0 0 RX11 207 := ⟨81, 5, 8, mF5, RX5, RX5, TX5, oX_at h, rfl, rfl, by decide, iX5, wdF_RX11_207, rfl⟩
theorem fX_X11_207w {n : Nat} {ex : List gS} (hU : gU (shH ++ ex)) (h : EX5 n ex) : gFw (shH ++ ex) 1000 7 0 0 RX11 207 .int := ⟨81, 5, 8, mF5, RX5, RX5, TX5, tyX5, oX_at h, rfl, rfl, by decide, iX5, wdF_RX11_207, rfl, tyX5_ok, nmX5, rfl, by decide +kernel, hU⟩
theorem fX_X4_27 {n : Nat} {ex : List gS} (h : EX5 n ex) : gF (shH ++ ex) 1000 6 0 0 RX4 27 := ⟨81, 5, 8, mF5, RX5, RX5, TX5, oX_at h, rfl, rfl, by decide, iX5, wdF_RX4_27, rfl⟩
theorem fX_X4_27w {n : Nat} {ex : List gS} (hU : gU (shH ++ ex)) (h : EX5 n ex) : gFw (shH ++ ex) 1000 6 0 0 RX4 27 .int := ⟨81, 5, 8, mF5, RX5, RX5, TX5, tyX5, oX_at h, rfl, rfl, by decide, iX5, wdF_RX4_27, rfl, tyX5_ok, nmX5, rfl, by decide +kernel, hU⟩
theorem fX_X4_30 {n : Nat} {ex : List gS} (h : EX5 n ex) : gF (shH ++ ex) 1000 7 0 0 RX4 30 := ⟨81, 5, 8, mF5, RX5, RX5, TX5, oX_at h, rfl, rfl, by decide, iX5, wdF_RX4_30, rfl⟩
theorem fX_X4_30w {n : Nat} {ex : List gS} (hU : gU (shH ++ ex)) (h : EX5 n ex) : gFw (shH ++ ex) 1000 7 0 0 RX4 30 .int := ⟨81, 5, 8, mF5, RX5, RX5, TX5, tyX5, oX_at h, rfl, rfl, by decide, iX5, wdF_RX4_30, rfl, tyX5_ok, nmX5, rfl, by decide +kernel, hU⟩
theorem fX_X5_9 {n : Nat} {ex : List gS} (h : EX5 n ex) : gF (shH ++ ex) 1000 0 1 1300 RX5 9 := ⟨81, 5, 8, mF5, RX5, RX5, TX5, oX_at h, rfl, rfl, by decide, iX5, wdF_RX5_9, rfl⟩
theorem fX_X5_15 {n : Nat} {ex : List gS} (h : EX5 n ex) : gF (shH ++ ex) 1000 4 1 1600 RX5 15 := ⟨81, 5, 8, mF5, RX5, RX5, TX5, oX_at h, rfl, rfl, by decide, iX5, wdF_RX5_15, rfl⟩
theorem fX_X5_38 {n : Nat} {ex : List gS} (h : EX5 n ex) : gF (shH ++ ex) 1000 1 0 0 RX5 38 := ⟨81, 5, 8, mF5, RX5, RX5, TX5, oX_at h, rfl, rfl, by decide, iX5, wdF_RX5_38, rfl⟩
theorem fX_X5_38w {n : Nat} {ex : List gS} (hU : gU (shH ++ ex)) (h : EX5 n ex) : gFw (shH ++ ex) 1000 1 0 0 RX5 38 .boolean := ⟨81, 5, 8, mF5, RX5, RX5, TX5, tyX5, oX_at h, rfl, rfl, by decide, iX5, wdF_RX5_38, rfl, tyX5_ok, nmX5, rfl, by decide +kernel, hU⟩
theorem fX_X5_42 {n : Nat} {ex : List gS} (h : EX5 n ex) : gF (shH ++ ex) 1000 2 0 0 RX5 42 := ⟨81, 5, 8, mF5, RX5, RX5, TX5, oX_at h, rfl, rfl, by decide, iX5, wdF_RX5_42, rfl⟩
theorem fX_X5_42w {n : Nat} {ex : List gS} (hU : gU (shH ++ ex)) (h : EX5 n ex) : gFw (shH ++ ex) 1000 2 0 0 RX5 42 .int := ⟨81, 5, 8, mF5, RX5, RX5, TX5, tyX5, oX_at h, rfl, rfl, by decide, iX5, wdF_RX5_42, rfl, tyX5_ok, nmX5, rfl, by decide +kernel, hU⟩
theorem fX_X5_47 {n : Nat} {ex : List gS} (h : EX5 n ex) : gF (shH ++ ex) 1000 3 2 0 RX5 47 := ⟨81, 5, 8, mF5, RX5, RX5, TX5, oX_at h, rfl, rfl, by decide, iX5, wdF_RX5_47, rfl⟩
theorem fX_X5_47w {n : Nat} {ex : List gS} (hU : gU (shH ++ ex)) (h : EX5 n ex) : gFw (shH ++ ex) 1000 3 2 0 RX5 47 .long := ⟨81, 5, 8, mF5, RX5, RX5, TX5, tyX5, oX_at h, rfl, rfl, by decide, iX5, wdF_RX5_47, rfl, tyX5_ok, nmX5, rfl, by decide +kernel, hU⟩
theorem fX_X5_51 {n : Nat} {ex : List gS} (h : EX5 n ex) : gF (shH ++ ex) 1000 5 0 0 RX5 51 := ⟨81, 5, 8, mF5, RX5, RX5, TX5, oX_at h, rfl, rfl, by decide, iX5, wdF_RX5_51, rfl⟩
theorem fX_X5_51w {n : Nat} {ex : List gS} (hU : gU (shH ++ ex)) (h : EX5 n ex) : gFw (shH ++ ex) 1000 5 0 0 RX5 51 .int := ⟨81, 5, 8, mF5, RX5, RX5, TX5, tyX5, oX_at h, rfl, rfl, by decide, iX5, wdF_RX5_51, rfl, tyX5_ok, nmX5, rfl, by decide +kernel, hU⟩
theorem dX5_restore_0 : decode cX5_restore 0 = .ok (.iconst 0, 1) := by decide +kernel
theorem dX5_restore_1 : decode cX5_restore 1 = .ok (.istore_n 3, 1) := by decide +kernel
theorem dX5_restore_2 : decode cX5_restore 2 = .ok (.iload_n 3, 1) := by decide +kernel
theorem dX5_restore_3 : decode cX5_restore 3 = .ok (.aload_n 1, 1) := by decide +kernel
theorem dX5_restore_4 : decode cX5_restore 4 = .ok (.getfield 19, 3) := by decide +kernel
theorem dX5_restore_7 : decode cX5_restore 7 = .ok (.if_icmp .ge 24, 3) := by decide +kernel
theorem dX5_restore_10 : decode cX5_restore 10 = .ok (.aload_n 1, 1) := by decide +kernel
theorem dX5_restore_11 : decode cX5_restore 11 = .ok (.getfield 25, 3) := by decide +kernel
theorem dX5_restore_14 : decode cX5_restore 14 = .ok (.iload_n 3, 1) := by decide +kernel
theorem dX5_restore_15 : decode cX5_restore 15 = .ok (.aload_n 0, 1) := by decide +kernel
theorem dX5_restore_16 : decode cX5_restore 16 = .ok (.getfield 9, 3) := by decide +kernel
theorem dX5_restore_19 : decode cX5_restore 19 = .ok (.iload_n 3, 1) := by decide +kernel
theorem dX5_restore_20 : decode cX5_restore 20 = .ok (.iaload, 1) := by decide +kernel
theorem dX5_restore_21 : decode cX5_restore 21 = .ok (.bipush 14, 2) := by decide +kernel
theorem dX5_restore_23 : decode cX5_restore 23 = .ok (.ishr, 1) := by decide +kernel
theorem dX5_restore_24 : decode cX5_restore 24 = .ok (.iastore, 1) := by decide +kernel
theorem dX5_restore_25 : decode cX5_restore 25 = .ok (.iinc 3 1, 3) := by decide +kernel
theorem dX5_restore_28 : decode cX5_restore 28 = .ok (.goto (-26), 3) := by decide +kernel
theorem dX5_restore_31 : decode cX5_restore 31 = .ok (.aload_n 1, 1) := by decide +kernel
theorem dX5_restore_32 : decode cX5_restore 32 = .ok (.aload_n 0, 1) := by decide +kernel
theorem dX5_restore_33 : decode cX5_restore 33 = .ok (.getfield 9, 3) := by decide +kernel
theorem dX5_restore_36 : decode cX5_restore 36 = .ok (.aload_n 1, 1) := by decide +kernel
theorem dX5_restore_37 : decode cX5_restore 37 = .ok (.getfield 19, 3) := by decide +kernel
theorem dX5_restore_40 : decode cX5_restore 40 = .ok (.invokevirtual 59, 3) := by decide +kernel
theorem dX5_restore_43 : decode cX5_restore 43 = .ok (.aload_n 2, 1) := by decide +kernel
theorem dX5_restore_44 : decode cX5_restore 44 = .ok (.aload_n 0, 1) := by decide +kernel
theorem dX5_restore_45 : decode cX5_restore 45 = .ok (.getfield 38, 3) := by decide +kernel
theorem dX5_restore_48 : decode cX5_restore 48 = .ok (.putfield 32, 3) := by decide +kernel
theorem dX5_restore_51 : decode cX5_restore 51 = .ok (.aload_n 2, 1) := by decide +kernel
theorem dX5_restore_52 : decode cX5_restore 52 = .ok (.aload_n 0, 1) := by decide +kernel
theorem dX5_restore_53 : decode cX5_restore 53 = .ok (.getfield 42, 3) := by decide +kernel
theorem dX5_restore_56 : decode cX5_restore 56 = .ok (.putfield 39, 3) := by decide +kernel
theorem dX5_restore_59 : decode cX5_restore 59 = .ok (.aload_n 2, 1) := by decide +kernel
theorem dX5_restore_60 : decode cX5_restore 60 = .ok (.aload_n 0, 1) := by decide +kernel
theorem dX5_restore_61 : decode cX5_restore 61 = .ok (.getfield 47, 3) := by decide +kernel
theorem dX5_restore_64 : decode cX5_restore 64 = .ok (.putfield 43, 3) := by decide +kernel
theorem dX5_restore_67 : decode cX5_restore 67 = .ok (.aload_n 2, 1) := by decide +kernel
theorem dX5_restore_68 : decode cX5_restore 68 = .ok (.aload_n 0, 1) := by decide +kernel
theorem dX5_restore_69 : decode cX5_restore 69 = .ok (.getfield 51, 3) := by decide +kernel
theorem dX5_restore_72 : decode cX5_restore 72 = .ok (.putfield 48, 3) := by decide +kernel
theorem dX5_restore_75 : decode cX5_restore 75 = .ok (.aload_n 0, 1) := by decide +kernel
theorem dX5_restore_76 : decode cX5_restore 76 = .ok (.getfield 15, 3) := by decide +kernel
theorem dX5_restore_79 : decode cX5_restore 79 = .ok (.iconst 0, 1) := by decide +kernel
theorem dX5_restore_80 : decode cX5_restore 80 = .ok (.aload_n 2, 1) := by decide +kernel
theorem dX5_restore_81 : decode cX5_restore 81 = .ok (.getfield 52, 3) := by decide +kernel
theorem dX5_restore_84 : decode cX5_restore 84 = .ok (.iconst 0, 1) := by decide +kernel
theorem dX5_restore_85 : decode cX5_restore 85 = .ok (.aload_n 0, 1) := by decide +kernel
theorem dX5_restore_86 : decode cX5_restore 86 = .ok (.getfield 51, 3) := by decide +kernel
theorem dX5_restore_89 : decode cX5_restore 89 = .ok (.invokestatic 53, 3) := by decide +kernel
theorem dX5_restore_92 : decode cX5_restore 92 = .ok (.return_, 1) := by decide +kernel
abbrev rm_f_X5_restore : Room := { frames := 4, cells := 0, slots := 0, locals := 90 }
def f_X5_restore_L2 (o1 : Nat) (K3 : (St → Option (St))) : Nat → Int → St → Option (St)
  | 0, _, _ => none
  | n9 + 1, x1, t2 =>
    lt1 (t2.1 (305 + o1) 8) fun v4 =>
    cmpI x1 v4 (if x1 < v4 then (ixI x1 64 (lt1 (t2.1 1300 x1.toNat) fun v5 =>
    rnI v5 (
    ixI x1 64 (lt1 (pI t2 (393 + 10 * o1) x1.toNat (v5 / 16384)) fun t6 =>
    f_X5_restore_L2 o1 K3 n9 (x1 + 1) t6))))
    else (K3 t2))
def f_X5_restore (N : Nat) (o1 : Nat) (o2 : Nat) (n6 : Nat) (t : St) : Option (St) :=
    f_X5_restore_L2 o1 (fun (t7 : St) => lt1 (t7.1 (305 + o1) 8) fun v8 =>
    bdV (f_X3_place N o1 1300 64 v8 t7) fun t9 =>
    lt1 (t9.1 1000 1) fun v10 =>
    boI v10 (lt1 (pI t9 (307 + o2) 2 v10) fun t11 =>
    lt1 (t11.1 1000 2) fun v12 =>
    lt1 (pI t11 (307 + o2) 3 v12) fun t13 =>
    lt1 (t13.2 1000 3) fun v14 =>
    lt1 (pL t13 (307 + o2) 4 v14) fun t15 =>
    lt1 (t15.1 1000 5) fun v16 =>
    lt1 (pI t15 (307 + o2) 6 v16) fun t17 =>
    lt1 (t17.1 1000 5) fun v18 =>
    cpI 0 0 v18 n6 1500 (lt1 (cpL t17 1600 (410 + o2) (0 : Int).toNat (0 : Int).toNat v18.toNat) fun t19 =>
    some t19))) N 0 t
set_option maxHeartbeats 4000000 in
set_option maxRecDepth 100000 in
theorem t_f_X5_restore_L2 {p : Program} {l : Launch} {e : Env} {s : State} {m : MethodId} {args : Array Value} {below : List Frame} {meth : Method} {c : Code} {E : cE} {A : Nat → Prop} {r : Nat → Nat} {mc ms : Nat} {z : St} {ex : List gS} (hU : gU (shH ++ ex)) {n6 : Nat} (hE5 : EX5 n6 ex) {o1 : Nat} (ho1 : o1 < 2) {o2 : Nat} (ho2 : o2 < 2) {K3 : (St → Option (St))} (X : gX p s m meth c cX5_restore 4 none yX5_restore args E A) (hK3 : ∀ (t9 : St), K3 t9 = some z → gP p l e rm_f_X5_restore s m args below meth c E A 4 (MQ below ((gqV E (gW E r (shH ++ ex)) z) A) args s mc ms A) (gW E r (shH ++ ex)) 31 [(0, .ref (r 1000)), (1, .ref (r (305 + o1))), (2, .ref (r (307 + o2)))] [] t9) : ∀ (n9 : Nat) (x1 : Int) (t2 : St), f_X5_restore_L2 o1 K3 n9 x1 t2 = some z → gP p l e rm_f_X5_restore s m args below meth c E A 4 (MQ below ((gqV E (gW E r (shH ++ ex)) z) A) args s mc ms A) (gW E r (shH ++ ex)) 2 [(0, .ref (r 1000)), (1, .ref (r (305 + o1))), (2, .ref (r (307 + o2))), (3, iv x1)] [] t2 := by
  intro n9
  induction n9 with
  | zero => intro x1 t2 h; cases h
  | succ n9 ih =>
    intro x1 t2 h
    unfold f_X5_restore_L2 at h
    refine g_iload_n X dX5_restore_2 3 rfl ?_
    refine g_aload_n X dX5_restore_3 1 rfl ?_
    refine g_getI X (gF.ap (fH_X5_19_o (o := o1) ho1)) rfl dX5_restore_4 h (fun v4 h => ?_)
    refine g_icmp_ge (tgt := 31) X dX5_restore_7 (by decide) h (fun h => ?_) (fun h => ?_)
    · exact g_sub (lv' := [(0, .ref (r 1000)), (1, .ref (r (305 + o1))), (2, .ref (r (307 + o2)))]) [0, 1, 2] rfl (hK3 t2 h)
    · refine g_aload_n X dX5_restore_10 1 rfl ?_
      refine g_getR X (gF.ap (fH_X5_25_o (o := o1) ho1)) rfl dX5_restore_11 ?_
      refine g_iload_n X dX5_restore_14 3 rfl ?_
      refine g_aload_n X dX5_restore_15 0 rfl ?_
      refine g_getR X (fX_X5_9 hE5) rfl dX5_restore_16 ?_
      refine g_iload_n X dX5_restore_19 3 rfl ?_
      refine g_iald X (aX_1300 hU hE5) dX5_restore_20 h (fun v5 h => ?_)
      refine g_bipush X dX5_restore_21 (by decide) ?_
      refine g_shr X 14 (by decide) (M := 16384) (by decide) (by decide) dX5_restore_23 h (fun h => ?_)
      refine g_iast X (gA.ap hU (aF_3 (o := o1) ho1)) dX5_restore_24 h (fun t6 h => ?_)
      refine g_iinc (lv' := [(3, iv (x1 + 1)), (0, .ref (r 1000)), (1, .ref (r (305 + o1))), (2, .ref (r (307 + o2)))]) X dX5_restore_25 (k := 3) rfl (by decide) rfl ?_
      refine g_goto (tgt := 2) X dX5_restore_28 (by decide) ?_
      exact g_sub (lv' := [(0, .ref (r 1000)), (1, .ref (r (305 + o1))), (2, .ref (r (307 + o2))), (3, iv (x1 + 1))]) [1, 2, 3, 0] rfl (ih (x1 + 1) t6 h)
set_option maxHeartbeats 4000000 in
set_option maxRecDepth 100000 in
theorem b_f_X5_restore {p : Program} {l : Launch} {e : Env} {s : State} {m : MethodId} {args : Array Value} {below : List Frame} {meth : Method} {c : Code} {E : cE} {A : Nat → Prop} {r : Nat → Nat} {mc ms : Nat} {z : St} {N : Nat} {ex : List gS} (hU : gU (shH ++ ex)) {n6 : Nat} (hE5 : EX5 n6 ex) {o1 : Nat} (ho1 : o1 < 2) {o2 : Nat} (ho2 : o2 < 2) {t : St} (X : gX p s m meth c cX5_restore 4 none yX5_restore args E A) (h : f_X5_restore N o1 o2 n6 t = some z) : gP p l e rm_f_X5_restore s m args below meth c E A 4 (MQ below ((gqV E (gW E r (shH ++ ex)) z) A) args s mc ms A) (gW E r (shH ++ ex)) 0 [(0, .ref (r 1000)), (1, .ref (r (305 + o1))), (2, .ref (r (307 + o2)))] [] t := by
  unfold f_X5_restore at h
  refine g_iconst X dX5_restore_0 ?_
  refine g_istore_n (lv' := [(3, iv 0), (0, .ref (r 1000)), (1, .ref (r (305 + o1))), (2, .ref (r (307 + o2)))]) X dX5_restore_1 rfl (by decide) rfl ?_
  refine g_sub (lv' := [(0, .ref (r 1000)), (1, .ref (r (305 + o1))), (2, .ref (r (307 + o2))), (3, iv 0)]) [1, 2, 3, 0] rfl (t_f_X5_restore_L2 hU hE5 ho1 ho2 X (fun t7 h => ?_) N 0 t h)
  · refine g_aload_n X dX5_restore_31 1 rfl ?_
    refine g_aload_n X dX5_restore_32 0 rfl ?_
    refine g_getR X (fX_X5_9 hE5) rfl dX5_restore_33 ?_
    refine g_aload_n X dX5_restore_36 1 rfl ?_
    refine g_getI X (gF.ap (fH_X5_19_o (o := o1) ho1)) rfl dX5_restore_37 h (fun v8 h => ?_)
    refine g_callOV (rest := []) X (fun u9 h9 => cx_X3_place l E r N ex hU o1 ho1 1300 64 (aX_1300 hU hE5) v8 t7 u9 h9) yy_X3_place yi_X3_place wdM_RX5_59 (gO.ap (oX3 (o := o1) ho1)) rfl rfl rfl (Nat.le_of_ble_eq_true rfl) dX5_restore_40 ⟨by decide, by decide⟩ ⟨rfl, rfl⟩ h (fun t9 h => ?_)
    refine g_aload_n X dX5_restore_43 2 rfl ?_
    refine g_aload_n X dX5_restore_44 0 rfl ?_
    refine g_getI X (fX_X5_38 hE5) rfl dX5_restore_45 h (fun v10 h => ?_)
    refine g_putZ X (gFw.ap hU (fH_X5_32_ow (o := o2) ho2)) rfl dX5_restore_48 h (fun t11 h => ?_)
    refine g_aload_n X dX5_restore_51 2 rfl ?_
    refine g_aload_n X dX5_restore_52 0 rfl ?_
    refine g_getI X (fX_X5_42 hE5) rfl dX5_restore_53 h (fun v12 h => ?_)
    refine g_putI X (gFw.ap hU (fH_X5_39_ow (o := o2) ho2)) rfl dX5_restore_56 h (fun t13 h => ?_)
    refine g_aload_n X dX5_restore_59 2 rfl ?_
    refine g_aload_n X dX5_restore_60 0 rfl ?_
    refine g_getL X (fX_X5_47 hE5) rfl dX5_restore_61 h (fun v14 h => ?_)
    refine g_putL X (gFw.ap hU (fH_X5_43_ow (o := o2) ho2)) rfl dX5_restore_64 h (fun t15 h => ?_)
    refine g_aload_n X dX5_restore_67 2 rfl ?_
    refine g_aload_n X dX5_restore_68 0 rfl ?_
    refine g_getI X (fX_X5_51 hE5) rfl dX5_restore_69 h (fun v16 h => ?_)
    refine g_putI X (gFw.ap hU (fH_X5_48_ow (o := o2) ho2)) rfl dX5_restore_72 h (fun t17 h => ?_)
    refine g_aload_n X dX5_restore_75 0 rfl ?_
    refine g_getR X (fX_X5_15 hE5) rfl dX5_restore_76 ?_
    refine g_iconst X dX5_restore_79 ?_
    refine g_aload_n X dX5_restore_80 2 rfl ?_
    refine g_getR X (gF.ap (fH_X5_52_o (o := o2) ho2)) rfl dX5_restore_81 ?_
    refine g_iconst X dX5_restore_84 ?_
    refine g_aload_n X dX5_restore_85 0 rfl ?_
    refine g_getI X (fX_X5_51 hE5) rfl dX5_restore_86 h (fun v18 h => ?_)
    refine g_copyL X (aX_1600 hU hE5) (gA.ap hU (aR (o := o2) ho2)) wdM_RX5_53 (by decide) (Nat.le_of_ble_eq_true rfl) dX5_restore_89 h (fun t19 h => ?_)
    exact g_vret X h dX5_restore_92
set_option maxHeartbeats 4000000 in
set_option maxRecDepth 100000 in
theorem cx_X5_restore (l : Launch) (E : cE) (r : Nat → Nat) (N : Nat) (ex : List gS) (hU : gU (shH ++ ex)) (n6 : Nat) (hE5 : EX5 n6 ex) (o1 : Nat) (ho1 : o1 < 2) (o2 : Nat) (ho2 : o2 < 2) (t : St) (z : St) (h : f_X5_restore N o1 o2 n6 t = some z) : cM l E yX5_restore cX5_restore 4 none rm_f_X5_restore [.ref (r 1000), .ref (r (305 + o1)), .ref (r (307 + o2))] (gW E r (shH ++ ex) t) (gqV E (gW E r (shH ++ ex)) z) := by
  refine g_of (w := gW E r (shH ++ ex)) (by decide) (Nat.le_of_ble_eq_true rfl) ?_
  intro p e s m below meth c A X
  exact g_sub (lv' := [(0, .ref (r 1000)), (1, .ref (r (305 + o1))), (2, .ref (r (307 + o2)))]) [0, 1, 2] rfl (b_f_X5_restore hU hE5 ho1 ho2 X h)
theorem yy_X5_restore : cY yX5_restore cX5_restore 4 none 2 := ⟨wdK_X5_restore, wdZ_RX5, by decide +kernel⟩
theorem yi_X5_restore : cYi yX5_restore := ⟨wdN_X5_restore, wdS_X5_restore⟩
